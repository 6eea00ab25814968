/-- a method: number of its class, name, code, locals, what it returns, room, number of parameters, 0 static 1 virtual 2 constructor -/
abbrev eg_M : Type := Nat × MethodName × ByteArray × Nat × Option FieldType × Room × Nat × Nat
abbrev eg_co (d : eg_M) : Nat := d.1
abbrev eg_y (d : eg_M) : MethodName := d.2.1
abbrev eg_cc (d : eg_M) : ByteArray := d.2.2.1
abbrev eg_ml (d : eg_M) : Nat := d.2.2.2.1
abbrev eg_rt (d : eg_M) : Option FieldType := d.2.2.2.2.1
abbrev eg_rm (d : eg_M) : Room := d.2.2.2.2.2.1
abbrev eg_np (d : eg_M) : Nat := d.2.2.2.2.2.2.1
abbrev eg_st (d : eg_M) : Nat := d.2.2.2.2.2.2.2
def eg_cn (k : Nat) : String := match k with
  | 0 => "TouchBench$Boxes"
  | 1 => "TouchBench$CircleFit"
  | 2 => "TouchBench$Figure"
  | 3 => "TouchBench$FlatFit"
  | 4 => "TouchBench$Fraction"
  | 5 => "TouchBench$Frame"
  | 6 => "TouchBench$Grid"
  | 7 => "TouchBench$Outline"
  | 8 => "TouchBench$Part"
  | 9 => "TouchBench$Sheet"
  | 10 => "TouchBench$Touched"
  | 11 => "TouchBench"
  | 12 => "TouchBenchModel"
  | _ => "java/lang/Math"
abbrev m_Boxes_init : eg_M := (0, ⟨"TouchBench$Boxes", "<init>", "()V"⟩, prog_2_method_1_code, 1, none, { frames := 1, cells := 2, slots := 36, locals := 20 }, 0, 2)
abbrev m_Boxes_setSide : eg_M := (0, ⟨"TouchBench$Boxes", "setSide", "(III)V"⟩, prog_2_method_2_code, 5, none, { frames := 0, cells := 0, slots := 0, locals := 0 }, 3, 1)
abbrev m_Boxes_firstEntered : eg_M := (0, ⟨"TouchBench$Boxes", "firstEntered", "(LTouchBench$Part;II)I"⟩, prog_2_method_3_code, 5, (some .int), { frames := 3, cells := 0, slots := 0, locals := 73 }, 3, 1)
abbrev m_Boxes_isEntered : eg_M := (0, ⟨"TouchBench$Boxes", "isEntered", "(ILTouchBench$Part;II)Z"⟩, prog_2_method_4_code, 5, (some .boolean), { frames := 2, cells := 0, slots := 0, locals := 49 }, 4, 1)
abbrev m_Boxes_narrow : eg_M := (0, ⟨"TouchBench$Boxes", "narrow", "(III)Z"⟩, prog_2_method_5_code, 10, (some .boolean), { frames := 1, cells := 0, slots := 0, locals := 20 }, 3, 1)
abbrev m_Circ_init : eg_M := (1, ⟨"TouchBench$CircleFit", "<init>", "()V"⟩, prog_3_method_1_code, 1, none, { frames := 2, cells := 5, slots := 69, locals := 40 }, 0, 2)
abbrev m_Circ_fitCircle : eg_M := (1, ⟨"TouchBench$CircleFit", "fitCircle", "(LTouchBench$Part;LTouchBench$Figure;)Z"⟩, prog_3_method_2_code, 3, (some .boolean), { frames := 5, cells := 0, slots := 0, locals := 122 }, 2, 1)
abbrev m_Circ_holdOnePlace : eg_M := (1, ⟨"TouchBench$CircleFit", "holdOnePlace", "(LTouchBench$Figure;)Z"⟩, prog_3_method_3_code, 3, (some .boolean), { frames := 4, cells := 0, slots := 0, locals := 99 }, 1, 1)
abbrev m_Circ_holdPair : eg_M := (1, ⟨"TouchBench$CircleFit", "holdPair", "(LTouchBench$Figure;)Z"⟩, prog_3_method_4_code, 4, (some .boolean), { frames := 4, cells := 0, slots := 0, locals := 99 }, 1, 1)
abbrev m_Circ_holdThree : eg_M := (1, ⟨"TouchBench$CircleFit", "holdThree", "(LTouchBench$Figure;)Z"⟩, prog_3_method_5_code, 4, (some .boolean), { frames := 4, cells := 0, slots := 0, locals := 99 }, 1, 1)
abbrev m_Circ_findSharpThree : eg_M := (1, ⟨"TouchBench$CircleFit", "findSharpThree", "()Z"⟩, prog_3_method_6_code, 4, (some .boolean), { frames := 2, cells := 0, slots := 0, locals := 66 }, 0, 1)
abbrev m_Circ_isSharp : eg_M := (1, ⟨"TouchBench$CircleFit", "isSharp", "(III)Z"⟩, prog_3_method_7_code, 6, (some .boolean), { frames := 0, cells := 0, slots := 0, locals := 0 }, 3, 1)
abbrev m_Circ_isNewPlace : eg_M := (1, ⟨"TouchBench$CircleFit", "isNewPlace", "(I)Z"⟩, prog_3_method_8_code, 3, (some .boolean), { frames := 1, cells := 0, slots := 0, locals := 22 }, 1, 1)
abbrev m_Circ_setCircle : eg_M := (1, ⟨"TouchBench$CircleFit", "setCircle", "(IJJJ)V"⟩, prog_3_method_9_code, 8, none, { frames := 0, cells := 0, slots := 0, locals := 0 }, 4, 1)
abbrev m_Circ_setCircleOfThree : eg_M := (1, ⟨"TouchBench$CircleFit", "setCircleOfThree", "(III)V"⟩, prog_3_method_10_code, 20, none, { frames := 1, cells := 0, slots := 0, locals := 27 }, 3, 1)
abbrev m_Circ_outside : eg_M := (1, ⟨"TouchBench$CircleFit", "outside", "(I)J"⟩, prog_3_method_11_code, 6, (some .long), { frames := 0, cells := 0, slots := 0, locals := 0 }, 1, 1)
abbrev m_Circ_hasNoneOutside : eg_M := (1, ⟨"TouchBench$CircleFit", "hasNoneOutside", "()Z"⟩, prog_3_method_12_code, 2, (some .boolean), { frames := 1, cells := 0, slots := 0, locals := 25 }, 0, 1)
abbrev m_Circ_finish : eg_M := (1, ⟨"TouchBench$CircleFit", "finish", "(LTouchBench$Figure;I)V"⟩, prog_3_method_13_code, 3, none, { frames := 3, cells := 0, slots := 0, locals := 77 }, 2, 1)
abbrev m_Fig_init : eg_M := (2, ⟨"TouchBench$Figure", "<init>", "()V"⟩, prog_4_method_1_code, 1, none, { frames := 2, cells := 5, slots := 15, locals := 40 }, 0, 2)
abbrev m_Fig_isOne : eg_M := (2, ⟨"TouchBench$Figure", "isOne", "()Z"⟩, prog_4_method_2_code, 1, (some .boolean), { frames := 0, cells := 0, slots := 0, locals := 0 }, 0, 1)
abbrev m_Fig_isOfKind : eg_M := (2, ⟨"TouchBench$Figure", "isOfKind", "(I)Z"⟩, prog_4_method_3_code, 4, (some .boolean), { frames := 0, cells := 0, slots := 0, locals := 0 }, 1, 1)
abbrev m_Fig_keeps : eg_M := (2, ⟨"TouchBench$Figure", "keeps", "(I)Z"⟩, prog_4_method_4_code, 4, (some .boolean), { frames := 1, cells := 0, slots := 0, locals := 21 }, 1, 1)
abbrev m_Fig_leastKept : eg_M := (2, ⟨"TouchBench$Figure", "leastKept", "()I"⟩, prog_4_method_5_code, 2, (some .int), { frames := 2, cells := 0, slots := 0, locals := 44 }, 0, 1)
abbrev m_Fig_setDirection : eg_M := (2, ⟨"TouchBench$Figure", "setDirection", "(JJJ)V"⟩, prog_4_method_6_code, 9, none, { frames := 3, cells := 0, slots := 0, locals := 75 }, 3, 1)
abbrev m_Flat_init : eg_M := (3, ⟨"TouchBench$FlatFit", "<init>", "()V"⟩, prog_5_method_1_code, 1, none, { frames := 2, cells := 8, slots := 81, locals := 40 }, 0, 2)
abbrev m_Flat_fitLine : eg_M := (3, ⟨"TouchBench$FlatFit", "fitLine", "(LTouchBench$Part;LTouchBench$Figure;)Z"⟩, prog_5_method_2_code, 5, (some .boolean), { frames := 4, cells := 0, slots := 0, locals := 103 }, 2, 1)
abbrev m_Flat_fitPlane : eg_M := (3, ⟨"TouchBench$FlatFit", "fitPlane", "(LTouchBench$Part;LTouchBench$Figure;)Z"⟩, prog_5_method_3_code, 5, (some .boolean), { frames := 4, cells := 0, slots := 0, locals := 117 }, 2, 1)
abbrev m_Flat_start : eg_M := (3, ⟨"TouchBench$FlatFit", "start", "(LTouchBench$Part;)V"⟩, prog_5_method_4_code, 2, none, { frames := 1, cells := 0, slots := 0, locals := 22 }, 1, 1)
abbrev m_Flat_trySecondPairs : eg_M := (3, ⟨"TouchBench$FlatFit", "trySecondPairs", "(II)V"⟩, prog_5_method_5_code, 5, none, { frames := 3, cells := 0, slots := 0, locals := 93 }, 2, 1)
abbrev m_Flat_crossProduct : eg_M := (3, ⟨"TouchBench$FlatFit", "crossProduct", "(IIII)V"⟩, prog_5_method_6_code, 17, none, { frames := 0, cells := 0, slots := 0, locals := 0 }, 4, 1)
abbrev m_Flat_isBetter : eg_M := (3, ⟨"TouchBench$FlatFit", "isBetter", "(I)Z"⟩, prog_5_method_7_code, 14, (some .boolean), { frames := 2, cells := 0, slots := 0, locals := 60 }, 1, 1)
abbrev m_Flat_keepBest : eg_M := (3, ⟨"TouchBench$FlatFit", "keepBest", "(JJII)V"⟩, prog_5_method_8_code, 7, none, { frames := 1, cells := 0, slots := 0, locals := 26 }, 4, 1)
abbrev m_Flat_crossOf : eg_M := (3, ⟨"TouchBench$FlatFit", "crossOf", "(II)J"⟩, prog_5_method_9_code, 3, (some .long), { frames := 0, cells := 0, slots := 0, locals := 0 }, 2, 1)
abbrev m_Flat_isBeaten : eg_M := (3, ⟨"TouchBench$FlatFit", "isBeaten", "(JJ)Z"⟩, prog_5_method_10_code, 5, (some .boolean), { frames := 1, cells := 0, slots := 0, locals := 36 }, 2, 1)
abbrev m_Flat_hold : eg_M := (3, ⟨"TouchBench$FlatFit", "hold", "(III)V"⟩, prog_5_method_11_code, 4, none, { frames := 0, cells := 0, slots := 0, locals := 0 }, 3, 1)
abbrev m_Flat_finish : eg_M := (3, ⟨"TouchBench$FlatFit", "finish", "(LTouchBench$Figure;II)V"⟩, prog_5_method_12_code, 4, none, { frames := 3, cells := 0, slots := 0, locals := 77 }, 3, 1)
abbrev m_Frac_init : eg_M := (4, ⟨"TouchBench$Fraction", "<init>", "()V"⟩, prog_6_method_1_code, 1, none, { frames := 1, cells := 0, slots := 0, locals := 20 }, 0, 2)
abbrev m_Frac_become : eg_M := (4, ⟨"TouchBench$Fraction", "become", "(JJ)V"⟩, prog_6_method_2_code, 7, none, { frames := 2, cells := 0, slots := 0, locals := 51 }, 2, 1)
abbrev m_Frac_side : eg_M := (4, ⟨"TouchBench$Fraction", "side", "(Z)J"⟩, prog_6_method_3_code, 2, (some .long), { frames := 0, cells := 0, slots := 0, locals := 0 }, 1, 1)
abbrev m_Frac_commonMeasure : eg_M := (4, ⟨"TouchBench$Fraction", "commonMeasure", "(JJ)J"⟩, prog_6_method_4_code, 11, (some .long), { frames := 1, cells := 0, slots := 0, locals := 21 }, 2, 0)
abbrev m_Frac_isLess : eg_M := (4, ⟨"TouchBench$Fraction", "isLess", "(JJJJ)Z"⟩, prog_6_method_5_code, 17, (some .boolean), { frames := 0, cells := 0, slots := 0, locals := 0 }, 4, 0)
abbrev m_Frac_lower : eg_M := (4, ⟨"TouchBench$Fraction", "lower", "([JI)V"⟩, prog_6_method_6_code, 5, none, { frames := 2, cells := 0, slots := 0, locals := 51 }, 2, 0)
abbrev m_Frame_init : eg_M := (5, ⟨"TouchBench$Frame", "<init>", "()V"⟩, prog_7_method_1_code, 1, none, { frames := 1, cells := 1, slots := 9, locals := 20 }, 0, 2)
abbrev m_Frame_layWays : eg_M := (5, ⟨"TouchBench$Frame", "layWays", "([JIII)Z"⟩, prog_7_method_2_code, 15, (some .boolean), { frames := 4, cells := 0, slots := 0, locals := 102 }, 4, 1)
abbrev m_Frame_setWay : eg_M := (5, ⟨"TouchBench$Frame", "setWay", "(IJJJ)V"⟩, prog_7_method_3_code, 8, none, { frames := 3, cells := 0, slots := 0, locals := 75 }, 4, 1)
abbrev m_Frame_begin : eg_M := (5, ⟨"TouchBench$Frame", "begin", "(LTouchBench$Part;I)V"⟩, prog_7_method_4_code, 3, none, { frames := 0, cells := 0, slots := 0, locals := 0 }, 2, 1)
abbrev m_Frame_along : eg_M := (5, ⟨"TouchBench$Frame", "along", "(ILTouchBench$Part;I)J"⟩, prog_7_method_5_code, 4, (some .long), { frames := 0, cells := 0, slots := 0, locals := 0 }, 3, 1)
abbrev m_Grid_init : eg_M := (6, ⟨"TouchBench$Grid", "<init>", "()V"⟩, prog_8_method_1_code, 1, none, { frames := 1, cells := 2, slots := 18, locals := 20 }, 0, 2)
abbrev m_Grid_tooGreat : eg_M := (6, ⟨"TouchBench$Grid", "tooGreat", "([III)I"⟩, prog_8_method_2_code, 9, (some .int), { frames := 1, cells := 0, slots := 0, locals := 22 }, 3, 0)
abbrev m_Outl_init : eg_M := (7, ⟨"TouchBench$Outline", "<init>", "()V"⟩, prog_9_method_1_code, 1, none, { frames := 2, cells := 3, slots := 22, locals := 40 }, 0, 2)
abbrev m_Outl_endsAt : eg_M := (7, ⟨"TouchBench$Outline", "endsAt", "(II)Z"⟩, prog_9_method_2_code, 3, (some .boolean), { frames := 0, cells := 0, slots := 0, locals := 0 }, 2, 1)
abbrev m_Outl_add : eg_M := (7, ⟨"TouchBench$Outline", "add", "(II)I"⟩, prog_9_method_3_code, 3, (some .int), { frames := 0, cells := 0, slots := 0, locals := 0 }, 2, 1)
abbrev m_Outl_findNearest : eg_M := (7, ⟨"TouchBench$Outline", "findNearest", "(II)I"⟩, prog_9_method_4_code, 9, (some .int), { frames := 3, cells := 0, slots := 0, locals := 77 }, 2, 1)
abbrev m_Outl_measure : eg_M := (7, ⟨"TouchBench$Outline", "measure", "(III)V"⟩, prog_9_method_5_code, 19, none, { frames := 0, cells := 0, slots := 0, locals := 0 }, 3, 1)
abbrev m_Part_init : eg_M := (8, ⟨"TouchBench$Part", "<init>", "()V"⟩, prog_10_method_1_code, 1, none, { frames := 1, cells := 4, slots := 64, locals := 20 }, 0, 2)
abbrev m_Part_room : eg_M := (8, ⟨"TouchBench$Part", "room", "()I"⟩, prog_10_method_2_code, 1, (some .int), { frames := 0, cells := 0, slots := 0, locals := 0 }, 0, 1)
abbrev m_Part_add : eg_M := (8, ⟨"TouchBench$Part", "add", "(III)I"⟩, prog_10_method_3_code, 4, (some .int), { frames := 0, cells := 0, slots := 0, locals := 0 }, 3, 1)
abbrev m_Part_addMissed : eg_M := (8, ⟨"TouchBench$Part", "addMissed", "()I"⟩, prog_10_method_4_code, 1, (some .int), { frames := 0, cells := 0, slots := 0, locals := 0 }, 0, 1)
abbrev m_Part_empty : eg_M := (8, ⟨"TouchBench$Part", "empty", "()I"⟩, prog_10_method_5_code, 2, (some .int), { frames := 0, cells := 0, slots := 0, locals := 0 }, 0, 1)
abbrev m_Part_touchedCount : eg_M := (8, ⟨"TouchBench$Part", "touchedCount", "()I"⟩, prog_10_method_6_code, 3, (some .int), { frames := 0, cells := 0, slots := 0, locals := 0 }, 0, 1)
abbrev m_Sheet_init : eg_M := (9, ⟨"TouchBench$Sheet", "<init>", "()V"⟩, prog_11_method_1_code, 1, none, { frames := 1, cells := 1, slots := 48, locals := 20 }, 0, 2)
abbrev m_Sheet_isMissing : eg_M := (9, ⟨"TouchBench$Sheet", "isMissing", "()Z"⟩, prog_11_method_2_code, 1, (some .boolean), { frames := 0, cells := 0, slots := 0, locals := 0 }, 0, 1)
abbrev m_Sheet_renew : eg_M := (9, ⟨"TouchBench$Sheet", "renew", "(II)I"⟩, prog_11_method_3_code, 4, (some .int), { frames := 0, cells := 0, slots := 0, locals := 0 }, 2, 1)
abbrev m_Sheet_hasRun : eg_M := (9, ⟨"TouchBench$Sheet", "hasRun", "(II)Z"⟩, prog_11_method_4_code, 3, (some .boolean), { frames := 0, cells := 0, slots := 0, locals := 0 }, 2, 1)
abbrev m_Sheet_wholeOfBits : eg_M := (9, ⟨"TouchBench$Sheet", "wholeOfBits", "(J)I"⟩, prog_11_method_5_code, 11, (some .int), { frames := 0, cells := 0, slots := 0, locals := 0 }, 1, 0)
abbrev m_Tou_init : eg_M := (10, ⟨"TouchBench$Touched", "<init>", "()V"⟩, prog_12_method_1_code, 1, none, { frames := 1, cells := 4, slots := 64, locals := 20 }, 0, 2)
abbrev m_Tou_gather : eg_M := (10, ⟨"TouchBench$Touched", "gather", "(LTouchBench$Part;)V"⟩, prog_12_method_2_code, 3, none, { frames := 0, cells := 0, slots := 0, locals := 0 }, 1, 1)
abbrev m_Tou_isOnePlace : eg_M := (10, ⟨"TouchBench$Touched", "isOnePlace", "(II)Z"⟩, prog_12_method_3_code, 3, (some .boolean), { frames := 0, cells := 0, slots := 0, locals := 0 }, 2, 1)
abbrev m_X_init : eg_M := (11, ⟨"TouchBench", "<init>", "()V"⟩, prog_1_method_1_code, 2, none, { frames := 3, cells := 94, slots := 895, locals := 60 }, 0, 2)
abbrev m_X_point : eg_M := (11, ⟨"TouchBench", "point", "(IIII)J"⟩, prog_1_method_2_code, 5, (some .long), { frames := 2, cells := 0, slots := 0, locals := 43 }, 4, 1)
abbrev m_X_miss : eg_M := (11, ⟨"TouchBench", "miss", "(I)J"⟩, prog_1_method_3_code, 2, (some .long), { frames := 2, cells := 0, slots := 0, locals := 42 }, 1, 1)
abbrev m_X_clear : eg_M := (11, ⟨"TouchBench", "clear", "(I)J"⟩, prog_1_method_4_code, 2, (some .long), { frames := 2, cells := 0, slots := 0, locals := 42 }, 1, 1)
abbrev m_X_at : eg_M := (11, ⟨"TouchBench", "at", "(III)J"⟩, prog_1_method_5_code, 5, (some .long), { frames := 3, cells := 0, slots := 0, locals := 64 }, 3, 1)
abbrev m_X_points : eg_M := (11, ⟨"TouchBench", "points", "(IZ)J"⟩, prog_1_method_6_code, 3, (some .long), { frames := 2, cells := 0, slots := 0, locals := 42 }, 2, 1)
abbrev m_X_mend : eg_M := (11, ⟨"TouchBench", "mend", "(I)J"⟩, prog_1_method_7_code, 5, (some .long), { frames := 3, cells := 0, slots := 0, locals := 74 }, 1, 1)
abbrev m_X_grid : eg_M := (11, ⟨"TouchBench", "grid", "(III)J"⟩, prog_1_method_8_code, 4, (some .long), { frames := 1, cells := 0, slots := 0, locals := 22 }, 3, 1)
abbrev m_X_off : eg_M := (11, ⟨"TouchBench", "off", "(IIZ)J"⟩, prog_1_method_9_code, 4, (some .long), { frames := 2, cells := 0, slots := 0, locals := 50 }, 3, 1)
abbrev m_X_apart : eg_M := (11, ⟨"TouchBench", "apart", "(III)J"⟩, prog_1_method_10_code, 11, (some .long), { frames := 2, cells := 0, slots := 0, locals := 42 }, 3, 1)
abbrev m_X_sheet : eg_M := (11, ⟨"TouchBench", "sheet", "(III)J"⟩, prog_1_method_11_code, 4, (some .long), { frames := 2, cells := 0, slots := 0, locals := 42 }, 3, 1)
abbrev m_X_put : eg_M := (11, ⟨"TouchBench", "put", "(III)J"⟩, prog_1_method_12_code, 5, (some .long), { frames := 2, cells := 0, slots := 0, locals := 42 }, 3, 1)
abbrev m_X_bits : eg_M := (11, ⟨"TouchBench", "bits", "(IIJ)J"⟩, prog_1_method_13_code, 6, (some .long), { frames := 2, cells := 0, slots := 0, locals := 42 }, 3, 1)
abbrev m_X_copy : eg_M := (11, ⟨"TouchBench", "copy", "(IIIII)J"⟩, prog_1_method_14_code, 8, (some .long), { frames := 2, cells := 0, slots := 0, locals := 42 }, 5, 1)
abbrev m_X_lay : eg_M := (11, ⟨"TouchBench", "lay", "(II)J"⟩, prog_1_method_15_code, 3, (some .long), { frames := 3, cells := 0, slots := 0, locals := 69 }, 2, 1)
abbrev m_X_fit : eg_M := (11, ⟨"TouchBench", "fit", "(III)J"⟩, prog_1_method_16_code, 5, (some .long), { frames := 6, cells := 0, slots := 0, locals := 144 }, 3, 1)
abbrev m_X_drop : eg_M := (11, ⟨"TouchBench", "drop", "(I)J"⟩, prog_1_method_17_code, 3, (some .long), { frames := 2, cells := 0, slots := 0, locals := 42 }, 1, 1)
abbrev m_X_as : eg_M := (11, ⟨"TouchBench", "as", "(II)J"⟩, prog_1_method_18_code, 3, (some .long), { frames := 2, cells := 0, slots := 0, locals := 42 }, 2, 1)
abbrev m_X_held : eg_M := (11, ⟨"TouchBench", "held", "(II)J"⟩, prog_1_method_19_code, 3, (some .long), { frames := 2, cells := 0, slots := 0, locals := 42 }, 2, 1)
abbrev m_X_missOf : eg_M := (11, ⟨"TouchBench", "missOf", "(IZ)J"⟩, prog_1_method_20_code, 3, (some .long), { frames := 2, cells := 0, slots := 0, locals := 42 }, 2, 1)
abbrev m_X_way : eg_M := (11, ⟨"TouchBench", "way", "(II)J"⟩, prog_1_method_21_code, 3, (some .long), { frames := 2, cells := 0, slots := 0, locals := 42 }, 2, 1)
abbrev m_X_middle : eg_M := (11, ⟨"TouchBench", "middle", "(IZZ)J"⟩, prog_1_method_22_code, 4, (some .long), { frames := 2, cells := 0, slots := 0, locals := 42 }, 3, 1)
abbrev m_X_ask : eg_M := (11, ⟨"TouchBench", "ask", "(II)J"⟩, prog_1_method_23_code, 3, (some .long), { frames := 2, cells := 0, slots := 0, locals := 44 }, 2, 1)
abbrev m_X_level : eg_M := (11, ⟨"TouchBench", "level", "(I)J"⟩, prog_1_method_24_code, 2, (some .long), { frames := 3, cells := 0, slots := 0, locals := 65 }, 1, 1)
abbrev m_X_more : eg_M := (11, ⟨"TouchBench", "more", "(IIII)J"⟩, prog_1_method_25_code, 6, (some .long), { frames := 3, cells := 0, slots := 0, locals := 65 }, 4, 1)
abbrev m_X_frame : eg_M := (11, ⟨"TouchBench", "frame", "(IIIIII)J"⟩, prog_1_method_26_code, 7, (some .long), { frames := 5, cells := 0, slots := 0, locals := 136 }, 6, 1)
abbrev m_X_axis : eg_M := (11, ⟨"TouchBench", "axis", "(II)J"⟩, prog_1_method_27_code, 3, (some .long), { frames := 1, cells := 0, slots := 0, locals := 22 }, 2, 1)
abbrev m_X_inFrame : eg_M := (11, ⟨"TouchBench", "inFrame", "(III)J"⟩, prog_1_method_28_code, 4, (some .long), { frames := 3, cells := 0, slots := 0, locals := 64 }, 3, 1)
abbrev m_X_corner : eg_M := (11, ⟨"TouchBench", "corner", "(II)J"⟩, prog_1_method_29_code, 3, (some .long), { frames := 2, cells := 0, slots := 0, locals := 43 }, 2, 1)
abbrev m_X_open : eg_M := (11, ⟨"TouchBench", "open", "()J"⟩, prog_1_method_30_code, 2, (some .long), { frames := 0, cells := 0, slots := 0, locals := 0 }, 0, 1)
abbrev m_X_nearest : eg_M := (11, ⟨"TouchBench", "nearest", "(II)J"⟩, prog_1_method_31_code, 5, (some .long), { frames := 4, cells := 0, slots := 0, locals := 105 }, 2, 1)
abbrev m_X_far : eg_M := (11, ⟨"TouchBench", "far", "(IIZ)J"⟩, prog_1_method_32_code, 6, (some .long), { frames := 4, cells := 0, slots := 0, locals := 105 }, 3, 1)
abbrev m_X_box : eg_M := (11, ⟨"TouchBench", "box", "(IIIIII)J"⟩, prog_1_method_33_code, 7, (some .long), { frames := 2, cells := 0, slots := 0, locals := 43 }, 6, 1)
abbrev m_X_unbox : eg_M := (11, ⟨"TouchBench", "unbox", "()J"⟩, prog_1_method_34_code, 2, (some .long), { frames := 0, cells := 0, slots := 0, locals := 0 }, 0, 1)
abbrev m_X_move : eg_M := (11, ⟨"TouchBench", "move", "(III)J"⟩, prog_1_method_35_code, 4, (some .long), { frames := 4, cells := 0, slots := 0, locals := 97 }, 3, 1)
abbrev m_X_path : eg_M := (11, ⟨"TouchBench", "path", "(I)J"⟩, prog_1_method_36_code, 5, (some .long), { frames := 4, cells := 0, slots := 0, locals := 97 }, 1, 1)
abbrev m_X_told : eg_M := (11, ⟨"TouchBench", "told", "(I)J"⟩, prog_1_method_37_code, 2, (some .long), { frames := 2, cells := 0, slots := 0, locals := 42 }, 1, 1)
abbrev m_X_found : eg_M := (11, ⟨"TouchBench", "found", "(J)J"⟩, prog_1_method_38_code, 3, (some .long), { frames := 0, cells := 0, slots := 0, locals := 0 }, 1, 1)
abbrev m_X_isWithin : eg_M := (11, ⟨"TouchBench", "isWithin", "(III)Z"⟩, prog_1_method_39_code, 3, (some .boolean), { frames := 0, cells := 0, slots := 0, locals := 0 }, 3, 0)
abbrev m_X_isPlace : eg_M := (11, ⟨"TouchBench", "isPlace", "(II)Z"⟩, prog_1_method_40_code, 2, (some .boolean), { frames := 1, cells := 0, slots := 0, locals := 22 }, 2, 0)
abbrev m_X_isDirection : eg_M := (11, ⟨"TouchBench", "isDirection", "(III)Z"⟩, prog_1_method_41_code, 3, (some .boolean), { frames := 1, cells := 0, slots := 0, locals := 22 }, 3, 0)
abbrev m_X_isBoxSide : eg_M := (11, ⟨"TouchBench", "isBoxSide", "(II)Z"⟩, prog_1_method_42_code, 2, (some .boolean), { frames := 1, cells := 0, slots := 0, locals := 22 }, 2, 0)
abbrev m_X_isPart : eg_M := (11, ⟨"TouchBench", "isPart", "(I)Z"⟩, prog_1_method_43_code, 1, (some .boolean), { frames := 1, cells := 0, slots := 0, locals := 22 }, 1, 0)
abbrev m_X_isSheet : eg_M := (11, ⟨"TouchBench", "isSheet", "(I)Z"⟩, prog_1_method_44_code, 1, (some .boolean), { frames := 1, cells := 0, slots := 0, locals := 22 }, 1, 0)
abbrev m_X_isFigure : eg_M := (11, ⟨"TouchBench", "isFigure", "(I)Z"⟩, prog_1_method_45_code, 1, (some .boolean), { frames := 1, cells := 0, slots := 0, locals := 22 }, 1, 0)
abbrev m_X_isPoint : eg_M := (11, ⟨"TouchBench", "isPoint", "(II)Z"⟩, prog_1_method_46_code, 3, (some .boolean), { frames := 2, cells := 0, slots := 0, locals := 42 }, 2, 1)
abbrev m_X_mendPoint : eg_M := (11, ⟨"TouchBench", "mendPoint", "(LTouchBench$Part;I)Z"⟩, prog_1_method_47_code, 5, (some .boolean), { frames := 2, cells := 0, slots := 0, locals := 50 }, 2, 1)
abbrev m_X_cut : eg_M := (11, ⟨"TouchBench", "cut", "(I)I"⟩, prog_1_method_48_code, 1, (some .int), { frames := 1, cells := 0, slots := 0, locals := 21 }, 1, 0)
abbrev m_X_squareApart : eg_M := (11, ⟨"TouchBench", "squareApart", "(LTouchBench$Part;LTouchBench$Part;I)J"⟩, prog_1_method_49_code, 9, (some .long), { frames := 0, cells := 0, slots := 0, locals := 0 }, 3, 0)
abbrev m_X_layPoints : eg_M := (11, ⟨"TouchBench", "layPoints", "(LTouchBench$Part;LTouchBench$Sheet;)I"⟩, prog_1_method_50_code, 7, (some .int), { frames := 2, cells := 0, slots := 0, locals := 43 }, 2, 0)
abbrev m_X_outlineFinding : eg_M := (11, ⟨"TouchBench", "outlineFinding", "(II)J"⟩, prog_1_method_51_code, 3, (some .long), { frames := 3, cells := 0, slots := 0, locals := 64 }, 2, 1)
abbrev m_X_figureCount : eg_M := (11, ⟨"TouchBench", "figureCount", "()I"⟩, prog_1_method_52_code, 3, (some .int), { frames := 1, cells := 0, slots := 0, locals := 20 }, 0, 1)
abbrev m_M_init : eg_M := (12, ⟨"TouchBenchModel", "<init>", "()V"⟩, prog_14_method_1_code, 1, none, { frames := 1, cells := 26, slots := 939, locals := 20 }, 0, 2)
abbrev m_M_finding : eg_M := (12, ⟨"TouchBenchModel", "finding", "(J)J"⟩, prog_14_method_2_code, 3, (some .long), { frames := 0, cells := 0, slots := 0, locals := 0 }, 1, 1)
abbrev m_M_isIn : eg_M := (12, ⟨"TouchBenchModel", "isIn", "(III)Z"⟩, prog_14_method_3_code, 3, (some .boolean), { frames := 0, cells := 0, slots := 0, locals := 0 }, 3, 0)
abbrev m_M_isPart : eg_M := (12, ⟨"TouchBenchModel", "isPart", "(I)Z"⟩, prog_14_method_4_code, 1, (some .boolean), { frames := 1, cells := 0, slots := 0, locals := 22 }, 1, 0)
abbrev m_M_isPoint : eg_M := (12, ⟨"TouchBenchModel", "isPoint", "(II)Z"⟩, prog_14_method_5_code, 3, (some .boolean), { frames := 2, cells := 0, slots := 0, locals := 42 }, 2, 1)
abbrev m_M_at_II : eg_M := (12, ⟨"TouchBenchModel", "at", "(II)I"⟩, prog_14_method_6_code, 2, (some .int), { frames := 0, cells := 0, slots := 0, locals := 0 }, 2, 0)
abbrev m_M_add : eg_M := (12, ⟨"TouchBenchModel", "add", "(IIIIZ)V"⟩, prog_14_method_7_code, 7, none, { frames := 1, cells := 0, slots := 0, locals := 21 }, 5, 1)
abbrev m_M_isNear : eg_M := (12, ⟨"TouchBenchModel", "isNear", "(I)Z"⟩, prog_14_method_8_code, 1, (some .boolean), { frames := 1, cells := 0, slots := 0, locals := 22 }, 1, 0)
abbrev m_M_point : eg_M := (12, ⟨"TouchBenchModel", "point", "(IIII)J"⟩, prog_14_method_9_code, 5, (some .long), { frames := 2, cells := 0, slots := 0, locals := 47 }, 4, 1)
abbrev m_M_miss : eg_M := (12, ⟨"TouchBenchModel", "miss", "(I)J"⟩, prog_14_method_10_code, 2, (some .long), { frames := 2, cells := 0, slots := 0, locals := 47 }, 1, 1)
abbrev m_M_clear : eg_M := (12, ⟨"TouchBenchModel", "clear", "(I)J"⟩, prog_14_method_11_code, 3, (some .long), { frames := 2, cells := 0, slots := 0, locals := 42 }, 1, 1)
abbrev m_M_at_III : eg_M := (12, ⟨"TouchBenchModel", "at", "(III)J"⟩, prog_14_method_12_code, 5, (some .long), { frames := 3, cells := 0, slots := 0, locals := 64 }, 3, 1)
abbrev m_M_points : eg_M := (12, ⟨"TouchBenchModel", "points", "(IZ)J"⟩, prog_14_method_13_code, 5, (some .long), { frames := 2, cells := 0, slots := 0, locals := 42 }, 2, 1)
abbrev m_M_offOf : eg_M := (12, ⟨"TouchBenchModel", "offOf", "(II[I)I"⟩, prog_14_method_14_code, 11, (some .int), { frames := 0, cells := 0, slots := 0, locals := 0 }, 3, 1)
abbrev m_M_held_I : eg_M := (12, ⟨"TouchBenchModel", "held", "(I)I"⟩, prog_14_method_15_code, 1, (some .int), { frames := 0, cells := 0, slots := 0, locals := 0 }, 1, 0)
abbrev m_M_mend : eg_M := (12, ⟨"TouchBenchModel", "mend", "(I)J"⟩, prog_14_method_16_code, 7, (some .long), { frames := 2, cells := 0, slots := 0, locals := 42 }, 1, 1)
abbrev m_M_grid : eg_M := (12, ⟨"TouchBenchModel", "grid", "(III)J"⟩, prog_14_method_17_code, 4, (some .long), { frames := 1, cells := 0, slots := 0, locals := 22 }, 3, 1)
abbrev m_M_off : eg_M := (12, ⟨"TouchBenchModel", "off", "(IIZ)J"⟩, prog_14_method_18_code, 4, (some .long), { frames := 2, cells := 0, slots := 0, locals := 42 }, 3, 1)
abbrev m_M_apart : eg_M := (12, ⟨"TouchBenchModel", "apart", "(III)J"⟩, prog_14_method_19_code, 18, (some .long), { frames := 2, cells := 0, slots := 0, locals := 42 }, 3, 1)
abbrev m_M_isSheet : eg_M := (12, ⟨"TouchBenchModel", "isSheet", "(I)Z"⟩, prog_14_method_20_code, 1, (some .boolean), { frames := 1, cells := 0, slots := 0, locals := 22 }, 1, 0)
abbrev m_M_sheet : eg_M := (12, ⟨"TouchBenchModel", "sheet", "(III)J"⟩, prog_14_method_21_code, 5, (some .long), { frames := 2, cells := 0, slots := 0, locals := 42 }, 3, 1)
abbrev m_M_put : eg_M := (12, ⟨"TouchBenchModel", "put", "(III)J"⟩, prog_14_method_22_code, 4, (some .long), { frames := 2, cells := 0, slots := 0, locals := 42 }, 3, 1)
abbrev m_M_bits : eg_M := (12, ⟨"TouchBenchModel", "bits", "(IIJ)J"⟩, prog_14_method_23_code, 5, (some .long), { frames := 2, cells := 0, slots := 0, locals := 42 }, 3, 1)
abbrev m_M_hasPart : eg_M := (12, ⟨"TouchBenchModel", "hasPart", "(III)Z"⟩, prog_14_method_24_code, 4, (some .boolean), { frames := 0, cells := 0, slots := 0, locals := 0 }, 3, 1)
abbrev m_M_copy : eg_M := (12, ⟨"TouchBenchModel", "copy", "(IIIII)J"⟩, prog_14_method_25_code, 7, (some .long), { frames := 2, cells := 0, slots := 0, locals := 42 }, 5, 1)
abbrev m_M_isGood : eg_M := (12, ⟨"TouchBenchModel", "isGood", "(II)Z"⟩, prog_14_method_26_code, 5, (some .boolean), { frames := 2, cells := 0, slots := 0, locals := 42 }, 2, 1)
abbrev m_M_numberOf : eg_M := (12, ⟨"TouchBenchModel", "numberOf", "(II)I"⟩, prog_14_method_27_code, 3, (some .int), { frames := 0, cells := 0, slots := 0, locals := 0 }, 2, 1)
abbrev m_M_lay : eg_M := (12, ⟨"TouchBenchModel", "lay", "(II)J"⟩, prog_14_method_28_code, 6, (some .long), { frames := 3, cells := 0, slots := 0, locals := 66 }, 2, 1)
abbrev m_M_isLess : eg_M := (12, ⟨"TouchBenchModel", "isLess", "(JJJJ)Z"⟩, prog_14_method_29_code, 20, (some .boolean), { frames := 0, cells := 0, slots := 0, locals := 0 }, 4, 0)
abbrev m_M_common : eg_M := (12, ⟨"TouchBenchModel", "common", "(JJ)J"⟩, prog_14_method_30_code, 10, (some .long), { frames := 0, cells := 0, slots := 0, locals := 0 }, 2, 0)
abbrev m_M_isFigure : eg_M := (12, ⟨"TouchBenchModel", "isFigure", "(I)Z"⟩, prog_14_method_31_code, 1, (some .boolean), { frames := 1, cells := 0, slots := 0, locals := 22 }, 1, 0)
abbrev m_M_keepMiss : eg_M := (12, ⟨"TouchBenchModel", "keepMiss", "(IJJ)V"⟩, prog_14_method_32_code, 8, none, { frames := 1, cells := 0, slots := 0, locals := 29 }, 3, 1)
abbrev m_M_lowest : eg_M := (12, ⟨"TouchBenchModel", "lowest", "(JJJ[JIZ)V"⟩, prog_14_method_33_code, 13, none, { frames := 1, cells := 0, slots := 0, locals := 29 }, 6, 0)
abbrev m_M_crosses : eg_M := (12, ⟨"TouchBenchModel", "crosses", "(IIJJJ)V"⟩, prog_14_method_34_code, 14, none, { frames := 1, cells := 0, slots := 0, locals := 21 }, 5, 1)
abbrev m_M_isHere : eg_M := (12, ⟨"TouchBenchModel", "isHere", "(II)Z"⟩, prog_14_method_35_code, 3, (some .boolean), { frames := 1, cells := 0, slots := 0, locals := 21 }, 2, 1)
abbrev m_M_fitLine : eg_M := (12, ⟨"TouchBenchModel", "fitLine", "(II)J"⟩, prog_14_method_36_code, 20, (some .long), { frames := 2, cells := 0, slots := 0, locals := 61 }, 2, 1)
abbrev m_M_tellNormal : eg_M := (12, ⟨"TouchBenchModel", "tellNormal", "(IIIII)V"⟩, prog_14_method_37_code, 22, none, { frames := 1, cells := 0, slots := 0, locals := 21 }, 5, 1)
abbrev m_M_squareOf : eg_M := (12, ⟨"TouchBenchModel", "squareOf", "()J"⟩, prog_14_method_38_code, 1, (some .long), { frames := 0, cells := 0, slots := 0, locals := 0 }, 0, 1)
abbrev m_M_fitPlane : eg_M := (12, ⟨"TouchBenchModel", "fitPlane", "(II)J"⟩, prog_14_method_39_code, 21, (some .long), { frames := 2, cells := 0, slots := 0, locals := 62 }, 2, 1)
abbrev m_M_isRoundOf : eg_M := (12, ⟨"TouchBenchModel", "isRoundOf", "(III)Z"⟩, prog_14_method_40_code, 9, (some .boolean), { frames := 1, cells := 0, slots := 0, locals := 21 }, 3, 1)
abbrev m_M_tellMiddle : eg_M := (12, ⟨"TouchBenchModel", "tellMiddle", "(IIII)V"⟩, prog_14_method_41_code, 18, none, { frames := 1, cells := 0, slots := 0, locals := 21 }, 4, 1)
abbrev m_M_outside : eg_M := (12, ⟨"TouchBenchModel", "outside", "(III)J"⟩, prog_14_method_42_code, 8, (some .long), { frames := 1, cells := 0, slots := 0, locals := 21 }, 3, 1)
abbrev m_M_hasAll : eg_M := (12, ⟨"TouchBenchModel", "hasAll", "(II)Z"⟩, prog_14_method_43_code, 5, (some .boolean), { frames := 2, cells := 0, slots := 0, locals := 48 }, 2, 1)
abbrev m_M_isSharp : eg_M := (12, ⟨"TouchBenchModel", "isSharp", "(IIII)Z"⟩, prog_14_method_44_code, 8, (some .boolean), { frames := 1, cells := 0, slots := 0, locals := 21 }, 4, 1)
abbrev m_M_keepMiddle : eg_M := (12, ⟨"TouchBenchModel", "keepMiddle", "(IJJJ)V"⟩, prog_14_method_45_code, 10, none, { frames := 1, cells := 0, slots := 0, locals := 29 }, 4, 1)
abbrev m_M_fitCircle : eg_M := (12, ⟨"TouchBenchModel", "fitCircle", "(II)J"⟩, prog_14_method_46_code, 15, (some .long), { frames := 4, cells := 0, slots := 0, locals := 101 }, 2, 1)
abbrev m_M_circleOfThree : eg_M := (12, ⟨"TouchBenchModel", "circleOfThree", "(II)J"⟩, prog_14_method_47_code, 10, (some .long), { frames := 3, cells := 0, slots := 0, locals := 72 }, 2, 1)
abbrev m_M_fit : eg_M := (12, ⟨"TouchBenchModel", "fit", "(III)J"⟩, prog_14_method_48_code, 4, (some .long), { frames := 5, cells := 0, slots := 0, locals := 135 }, 3, 1)
abbrev m_M_drop : eg_M := (12, ⟨"TouchBenchModel", "drop", "(I)J"⟩, prog_14_method_49_code, 3, (some .long), { frames := 2, cells := 0, slots := 0, locals := 42 }, 1, 1)
abbrev m_M_isFlat : eg_M := (12, ⟨"TouchBenchModel", "isFlat", "(I)Z"⟩, prog_14_method_50_code, 2, (some .boolean), { frames := 0, cells := 0, slots := 0, locals := 0 }, 1, 1)
abbrev m_M_as : eg_M := (12, ⟨"TouchBenchModel", "as", "(II)J"⟩, prog_14_method_51_code, 4, (some .long), { frames := 2, cells := 0, slots := 0, locals := 42 }, 2, 1)
abbrev m_M_held_II : eg_M := (12, ⟨"TouchBenchModel", "held", "(II)J"⟩, prog_14_method_52_code, 3, (some .long), { frames := 2, cells := 0, slots := 0, locals := 42 }, 2, 1)
abbrev m_M_missOf : eg_M := (12, ⟨"TouchBenchModel", "missOf", "(IZ)J"⟩, prog_14_method_53_code, 3, (some .long), { frames := 2, cells := 0, slots := 0, locals := 42 }, 2, 1)
abbrev m_M_way : eg_M := (12, ⟨"TouchBenchModel", "way", "(II)J"⟩, prog_14_method_54_code, 3, (some .long), { frames := 2, cells := 0, slots := 0, locals := 42 }, 2, 1)
abbrev m_M_middle : eg_M := (12, ⟨"TouchBenchModel", "middle", "(IZZ)J"⟩, prog_14_method_55_code, 4, (some .long), { frames := 2, cells := 0, slots := 0, locals := 42 }, 3, 1)
abbrev m_M_levelOf : eg_M := (12, ⟨"TouchBenchModel", "levelOf", "(I)I"⟩, prog_14_method_56_code, 5, (some .int), { frames := 1, cells := 0, slots := 0, locals := 39 }, 1, 1)
abbrev m_M_ask : eg_M := (12, ⟨"TouchBenchModel", "ask", "(II)J"⟩, prog_14_method_57_code, 3, (some .long), { frames := 2, cells := 0, slots := 0, locals := 63 }, 2, 1)
abbrev m_M_level : eg_M := (12, ⟨"TouchBenchModel", "level", "(I)J"⟩, prog_14_method_58_code, 2, (some .long), { frames := 2, cells := 0, slots := 0, locals := 63 }, 1, 1)
abbrev m_M_more : eg_M := (12, ⟨"TouchBenchModel", "more", "(IIII)J"⟩, prog_14_method_59_code, 6, (some .long), { frames := 2, cells := 0, slots := 0, locals := 63 }, 4, 1)
abbrev m_M_frame : eg_M := (12, ⟨"TouchBenchModel", "frame", "(IIIIII)J"⟩, prog_14_method_60_code, 24, (some .long), { frames := 3, cells := 0, slots := 0, locals := 64 }, 6, 1)
abbrev m_M_axis : eg_M := (12, ⟨"TouchBenchModel", "axis", "(II)J"⟩, prog_14_method_61_code, 3, (some .long), { frames := 1, cells := 0, slots := 0, locals := 22 }, 2, 1)
abbrev m_M_inFrame : eg_M := (12, ⟨"TouchBenchModel", "inFrame", "(III)J"⟩, prog_14_method_62_code, 5, (some .long), { frames := 3, cells := 0, slots := 0, locals := 64 }, 3, 1)
abbrev m_M_corner : eg_M := (12, ⟨"TouchBenchModel", "corner", "(II)J"⟩, prog_14_method_63_code, 3, (some .long), { frames := 2, cells := 0, slots := 0, locals := 42 }, 2, 1)
abbrev m_M_open : eg_M := (12, ⟨"TouchBenchModel", "open", "()J"⟩, prog_14_method_64_code, 2, (some .long), { frames := 0, cells := 0, slots := 0, locals := 0 }, 0, 1)
abbrev m_M_tellFar : eg_M := (12, ⟨"TouchBenchModel", "tellFar", "(II)V"⟩, prog_14_method_65_code, 18, none, { frames := 0, cells := 0, slots := 0, locals := 0 }, 2, 1)
abbrev m_M_nearestOf : eg_M := (12, ⟨"TouchBenchModel", "nearestOf", "(I)I"⟩, prog_14_method_66_code, 8, (some .int), { frames := 1, cells := 0, slots := 0, locals := 39 }, 1, 1)
abbrev m_M_askNear : eg_M := (12, ⟨"TouchBenchModel", "askNear", "(II)J"⟩, prog_14_method_67_code, 3, (some .long), { frames := 3, cells := 0, slots := 0, locals := 64 }, 2, 1)
abbrev m_M_nearest : eg_M := (12, ⟨"TouchBenchModel", "nearest", "(II)J"⟩, prog_14_method_68_code, 5, (some .long), { frames := 4, cells := 0, slots := 0, locals := 86 }, 2, 1)
abbrev m_M_far : eg_M := (12, ⟨"TouchBenchModel", "far", "(IIZ)J"⟩, prog_14_method_69_code, 9, (some .long), { frames := 4, cells := 0, slots := 0, locals := 86 }, 3, 1)
abbrev m_M_box : eg_M := (12, ⟨"TouchBenchModel", "box", "(IIIIII)J"⟩, prog_14_method_70_code, 9, (some .long), { frames := 2, cells := 0, slots := 0, locals := 42 }, 6, 1)
abbrev m_M_unbox : eg_M := (12, ⟨"TouchBenchModel", "unbox", "()J"⟩, prog_14_method_71_code, 2, (some .long), { frames := 0, cells := 0, slots := 0, locals := 0 }, 0, 1)
abbrev m_M_cut : eg_M := (12, ⟨"TouchBenchModel", "cut", "(IIII)Z"⟩, prog_14_method_72_code, 12, (some .boolean), { frames := 0, cells := 0, slots := 0, locals := 0 }, 4, 1)
abbrev m_M_goesInto : eg_M := (12, ⟨"TouchBenchModel", "goesInto", "(III)Z"⟩, prog_14_method_73_code, 5, (some .boolean), { frames := 1, cells := 0, slots := 0, locals := 31 }, 3, 1)
abbrev m_M_intoOf : eg_M := (12, ⟨"TouchBenchModel", "intoOf", "(II)I"⟩, prog_14_method_74_code, 4, (some .int), { frames := 2, cells := 0, slots := 0, locals := 55 }, 2, 1)
abbrev m_M_move : eg_M := (12, ⟨"TouchBenchModel", "move", "(III)J"⟩, prog_14_method_75_code, 4, (some .long), { frames := 3, cells := 0, slots := 0, locals := 78 }, 3, 1)
abbrev m_M_path : eg_M := (12, ⟨"TouchBenchModel", "path", "(I)J"⟩, prog_14_method_76_code, 4, (some .long), { frames := 3, cells := 0, slots := 0, locals := 78 }, 1, 1)
abbrev m_M_told : eg_M := (12, ⟨"TouchBenchModel", "told", "(I)J"⟩, prog_14_method_77_code, 4, (some .long), { frames := 1, cells := 0, slots := 0, locals := 22 }, 1, 1)
abbrev m_Math_floorDiv : eg_M := (13, ⟨"java/lang/Math", "floorDiv", "(II)I"⟩, prog_16_method_47_code, 3, (some .int), { frames := 0, cells := 0, slots := 0, locals := 0 }, 2, 0)
abbrev m_Math_abs_I : eg_M := (13, ⟨"java/lang/Math", "abs", "(I)I"⟩, prog_16_method_59_code, 1, (some .int), { frames := 0, cells := 0, slots := 0, locals := 0 }, 1, 0)
abbrev m_Math_abs_J : eg_M := (13, ⟨"java/lang/Math", "abs", "(J)J"⟩, prog_16_method_61_code, 2, (some .long), { frames := 0, cells := 0, slots := 0, locals := 0 }, 1, 0)
abbrev m_Math_max : eg_M := (13, ⟨"java/lang/Math", "max", "(II)I"⟩, prog_16_method_65_code, 2, (some .int), { frames := 0, cells := 0, slots := 0, locals := 0 }, 2, 0)
abbrev m_Math_min : eg_M := (13, ⟨"java/lang/Math", "min", "(II)I"⟩, prog_16_method_69_code, 2, (some .int), { frames := 0, cells := 0, slots := 0, locals := 0 }, 2, 0)
def eg_ML_0 : List eg_M := [m_Boxes_init, m_Boxes_setSide, m_Boxes_firstEntered, m_Boxes_isEntered, m_Boxes_narrow, m_Circ_init, m_Circ_fitCircle, m_Circ_holdOnePlace, m_Circ_holdPair, m_Circ_holdThree, m_Circ_findSharpThree, m_Circ_isSharp, m_Circ_isNewPlace, m_Circ_setCircle, m_Circ_setCircleOfThree, m_Circ_outside, m_Circ_hasNoneOutside, m_Circ_finish, m_Fig_init, m_Fig_isOne, m_Fig_isOfKind, m_Fig_keeps, m_Fig_leastKept, m_Fig_setDirection, m_Flat_init, m_Flat_fitLine, m_Flat_fitPlane, m_Flat_start, m_Flat_trySecondPairs, m_Flat_crossProduct, m_Flat_isBetter, m_Flat_keepBest, m_Flat_crossOf, m_Flat_isBeaten, m_Flat_hold, m_Flat_finish, m_Frac_init, m_Frac_become, m_Frac_side, m_Frac_commonMeasure]
def eg_ML_1 : List eg_M := [m_Frac_isLess, m_Frac_lower, m_Frame_init, m_Frame_layWays, m_Frame_setWay, m_Frame_begin, m_Frame_along, m_Grid_init, m_Grid_tooGreat, m_Outl_init, m_Outl_endsAt, m_Outl_add, m_Outl_findNearest, m_Outl_measure, m_Part_init, m_Part_room, m_Part_add, m_Part_addMissed, m_Part_empty, m_Part_touchedCount, m_Sheet_init, m_Sheet_isMissing, m_Sheet_renew, m_Sheet_hasRun, m_Sheet_wholeOfBits, m_Tou_init, m_Tou_gather, m_Tou_isOnePlace, m_X_init, m_X_point, m_X_miss, m_X_clear, m_X_at, m_X_points, m_X_mend, m_X_grid, m_X_off, m_X_apart, m_X_sheet, m_X_put]
def eg_ML_2 : List eg_M := [m_X_bits, m_X_copy, m_X_lay, m_X_fit, m_X_drop, m_X_as, m_X_held, m_X_missOf, m_X_way, m_X_middle, m_X_ask, m_X_level, m_X_more, m_X_frame, m_X_axis, m_X_inFrame, m_X_corner, m_X_open, m_X_nearest, m_X_far, m_X_box, m_X_unbox, m_X_move, m_X_path, m_X_told, m_X_found, m_X_isWithin, m_X_isPlace, m_X_isDirection, m_X_isBoxSide, m_X_isPart, m_X_isSheet, m_X_isFigure, m_X_isPoint, m_X_mendPoint, m_X_cut, m_X_squareApart, m_X_layPoints, m_X_outlineFinding, m_X_figureCount]
def eg_ML_3 : List eg_M := [m_M_init, m_M_finding, m_M_isIn, m_M_isPart, m_M_isPoint, m_M_at_II, m_M_add, m_M_isNear, m_M_point, m_M_miss, m_M_clear, m_M_at_III, m_M_points, m_M_offOf, m_M_held_I, m_M_mend, m_M_grid, m_M_off, m_M_apart, m_M_isSheet, m_M_sheet, m_M_put, m_M_bits, m_M_hasPart, m_M_copy, m_M_isGood, m_M_numberOf, m_M_lay, m_M_isLess, m_M_common, m_M_isFigure, m_M_keepMiss, m_M_lowest, m_M_crosses, m_M_isHere, m_M_fitLine, m_M_tellNormal, m_M_squareOf, m_M_fitPlane, m_M_isRoundOf]
def eg_ML_4 : List eg_M := [m_M_tellMiddle, m_M_outside, m_M_hasAll, m_M_isSharp, m_M_keepMiddle, m_M_fitCircle, m_M_circleOfThree, m_M_fit, m_M_drop, m_M_isFlat, m_M_as, m_M_held_II, m_M_missOf, m_M_way, m_M_middle, m_M_levelOf, m_M_ask, m_M_level, m_M_more, m_M_frame, m_M_axis, m_M_inFrame, m_M_corner, m_M_open, m_M_tellFar, m_M_nearestOf, m_M_askNear, m_M_nearest, m_M_far, m_M_box, m_M_unbox, m_M_cut, m_M_goesInto, m_M_intoOf, m_M_move, m_M_path, m_M_told, m_Math_floorDiv, m_Math_abs_I, m_Math_abs_J]
def eg_ML_5 : List eg_M := [m_Math_max, m_Math_min]
def eg_ML : List eg_M := eg_ML_0 ++ (eg_ML_1 ++ (eg_ML_2 ++ (eg_ML_3 ++ (eg_ML_4 ++ (eg_ML_5)))))
/-- the words that say what a method is -/
def eg_cdw (d : eg_M) : Cond := .code (eg_y d) (eg_cc d) (eg_ml d) (eg_rt d)
def eg_mw (d : eg_M) : List Cond := .initialized (eg_y d).cls :: (match eg_st d with
  | 0 => [.static (eg_y d)]
  | 1 => [.instanceMethod (eg_y d), .selects (eg_y d).cls (eg_y d) (eg_y d)]
  | _ => [.instanceMethod (eg_y d)])
def eg_mk (d : eg_M) : Bool := plainFor (eg_y d) && decide ((eg_y d).cls ≠ "java/lang/invoke/MethodHandle") && decide ((eg_y d).cls ≠ "java/lang/invoke/VarHandle") && decide ((parseMethodDescriptor (eg_y d).desc).map (fun z => z.parameters.length) = some (eg_np d)) && decide ((eg_y d).cls = eg_cn (eg_co d)) && (match eg_st d with | 0 => true | 1 => true | 2 => decide ((eg_y d).name = "<init>") | _ => false)
set_option maxRecDepth 100000 in
theorem eg_mw_0 : ∀ w ∈ eg_ML_0.flatMap eg_mw, w ∈ eg_tbl := eg_in _ [68, 263, 68, 843, 844, 68, 855, 856, 68, 860, 26, 68, 866, 27, 64, 175, 64, 649, 650, 64, 655, 12, 64, 672, 15, 64, 685, 18, 64, 689, 19, 64, 693, 20, 64, 702, 22, 64, 663, 13, 64, 697, 21, 64, 681, 17, 64, 677, 16, 64, 667, 14, 71, 347, 71, 709, 710, 71, 717, 718, 71, 747, 748, 71, 757, 758, 71, 615, 616, 62, 109, 62, 579, 580, 62, 637, 638, 62, 584, 3, 62, 642, 10, 62, 646, 11, 62, 592, 4, 62, 607, 7, 62, 596, 5, 62, 600, 6, 62, 612, 8, 62, 630, 9, 67, 229, 67, 633, 634, 67, 731, 732, 67, 623] (by decide +kernel) (by decide +kernel)
set_option maxRecDepth 100000 in
theorem eg_cd_0 : ∀ w ∈ eg_ML_0.map eg_cdw, w ∈ eg_tbl := eg_in _ [264, 845, 857, 861, 867, 176, 651, 656, 673, 686, 690, 694, 703, 664, 698, 682, 678, 668, 348, 711, 719, 749, 759, 617, 110, 581, 639, 585, 643, 647, 593, 608, 597, 601, 613, 631, 230, 635, 733, 624] rfl (by decide +kernel)
set_option maxRecDepth 100000 in
theorem eg_mk_0 : eg_ML_0.all eg_mk = true := by decide +kernel
set_option maxRecDepth 100000 in
theorem eg_mw_1 : ∀ w ∈ eg_ML_1.flatMap eg_mw, w ∈ eg_tbl := eg_in _ [67, 603, 67, 620, 65, 199, 65, 773, 774, 65, 778, 23, 65, 782, 783, 65, 794, 795, 61, 93, 61, 490, 66, 223, 66, 802, 803, 66, 806, 807, 66, 822, 823, 66, 827, 25, 69, 291, 69, 440, 441, 69, 445, 446, 69, 453, 454, 69, 461, 462, 69, 478, 479, 70, 329, 70, 539, 540, 70, 531, 532, 70, 558, 559, 70, 549, 63, 115, 63, 587, 588, 63, 658, 659, 60, 79, 60, 422, 423, 60, 449, 450, 60, 457, 458, 60, 465, 466, 60, 474, 475, 60, 482, 483, 60, 506, 507, 60, 510, 511, 60, 514, 515, 60, 523, 524, 60, 535, 536] (by decide +kernel) (by decide +kernel)
set_option maxRecDepth 100000 in
theorem eg_cd_1 : ∀ w ∈ eg_ML_1.map eg_cdw, w ∈ eg_tbl := eg_in _ [604, 621, 200, 775, 779, 784, 796, 94, 491, 224, 804, 808, 824, 828, 292, 442, 447, 455, 463, 480, 330, 541, 533, 560, 550, 116, 589, 660, 80, 424, 451, 459, 467, 476, 484, 508, 512, 516, 525, 537] rfl (by decide +kernel)
set_option maxRecDepth 100000 in
theorem eg_mk_1 : eg_ML_1.all eg_mk = true := by decide +kernel
set_option maxRecDepth 100000 in
theorem eg_mw_2 : ∀ w ∈ eg_ML_2.flatMap eg_mw, w ∈ eg_tbl := eg_in _ [60, 544, 545, 60, 554, 555, 60, 565, 566, 60, 572, 573, 60, 705, 706, 60, 713, 714, 60, 723, 724, 60, 727, 728, 60, 735, 736, 60, 739, 740, 60, 743, 744, 60, 753, 754, 60, 762, 763, 60, 766, 767, 60, 786, 787, 60, 790, 791, 60, 798, 799, 60, 810, 811, 60, 814, 815, 60, 832, 833, 60, 836, 837, 60, 847, 848, 60, 851, 852, 60, 872, 873, 60, 876, 877, 60, 437, 0, 60, 429, 60, 432, 60, 770, 60, 840, 60, 426, 60, 527, 60, 576, 60, 470, 1, 60, 487, 2, 60, 497, 60, 519, 60, 569, 60, 819, 24, 60, 881, 28] (by decide +kernel) (by decide +kernel)
set_option maxRecDepth 100000 in
theorem eg_cd_2 : ∀ w ∈ eg_ML_2.map eg_cdw, w ∈ eg_tbl := eg_in _ [546, 556, 567, 574, 707, 715, 725, 729, 737, 741, 745, 755, 764, 768, 788, 792, 800, 812, 816, 834, 838, 849, 853, 874, 878, 438, 430, 433, 771, 841, 427, 528, 577, 471, 488, 498, 520, 570, 820, 882] rfl (by decide +kernel)
set_option maxRecDepth 100000 in
theorem eg_mk_2 : eg_ML_2.all eg_mk = true := by decide +kernel
set_option maxRecDepth 100000 in
theorem eg_mw_3 : ∀ w ∈ eg_ML_3.flatMap eg_mw, w ∈ eg_tbl := eg_in _ [72, 886, 72, 1036, 29, 72, 1028, 72, 1025, 72, 1060, 31, 72, 1044, 72, 1041, 30, 72, 1031, 72, 1021, 1022, 72, 1047, 1048, 72, 1051, 1052, 72, 1055, 1056, 72, 1064, 1065, 72, 1073, 32, 72, 1077, 72, 1068, 1069, 72, 1080, 1081, 72, 1084, 1085, 72, 1088, 1089, 72, 1098, 72, 1094, 1095, 72, 1102, 1103, 72, 1107, 1108, 72, 1120, 33, 72, 1115, 1116, 72, 1128, 34, 72, 1134, 35, 72, 1123, 1124, 72, 1156, 72, 1163, 72, 1141, 72, 1160, 39, 72, 1166, 72, 1153, 38, 72, 1149, 37, 72, 1145, 36, 72, 1175, 41, 72, 1179, 42, 72, 1171, 40, 72, 1192, 45] (by decide +kernel) (by decide +kernel)
set_option maxRecDepth 100000 in
theorem eg_cd_3 : ∀ w ∈ eg_ML_3.map eg_cdw, w ∈ eg_tbl := eg_in _ [887, 1037, 1029, 1026, 1061, 1045, 1042, 1032, 1023, 1049, 1053, 1057, 1066, 1074, 1078, 1070, 1082, 1086, 1090, 1099, 1096, 1104, 1109, 1121, 1117, 1129, 1135, 1125, 1157, 1164, 1142, 1161, 1167, 1154, 1150, 1146, 1176, 1180, 1172, 1193] rfl (by decide +kernel)
set_option maxRecDepth 100000 in
theorem eg_mk_3 : eg_ML_3.all eg_mk = true := by decide +kernel
set_option maxRecDepth 100000 in
theorem eg_mw_4 : ∀ w ∈ eg_ML_4.flatMap eg_mw, w ∈ eg_tbl := eg_in _ [72, 1201, 47, 72, 1213, 50, 72, 1209, 49, 72, 1205, 48, 72, 1188, 44, 72, 1184, 43, 72, 1197, 46, 72, 1137, 1138, 72, 1217, 1218, 72, 1226, 51, 72, 1221, 1222, 72, 1229, 1230, 72, 1233, 1234, 72, 1237, 1238, 72, 1241, 1242, 72, 1250, 52, 72, 1245, 1246, 72, 1253, 1254, 72, 1257, 1258, 72, 1261, 1262, 72, 1265, 1266, 72, 1269, 1270, 72, 1273, 1274, 72, 1277, 1278, 72, 1294, 55, 72, 1290, 54, 72, 1286, 53, 72, 1281, 1282, 72, 1297, 1298, 72, 1301, 1302, 72, 1305, 1306, 72, 1324, 58, 72, 1318, 57, 72, 1314, 56, 72, 1309, 1310, 72, 1327, 1328, 72, 1331, 1332, 73, 494, 73, 869, 73, 626] (by decide +kernel) (by decide +kernel)
set_option maxRecDepth 100000 in
theorem eg_cd_4 : ∀ w ∈ eg_ML_4.map eg_cdw, w ∈ eg_tbl := eg_in _ [1202, 1214, 1210, 1206, 1189, 1185, 1198, 1139, 1219, 1227, 1223, 1231, 1235, 1239, 1243, 1251, 1247, 1255, 1259, 1263, 1267, 1271, 1275, 1279, 1295, 1291, 1287, 1283, 1299, 1303, 1307, 1325, 1319, 1315, 1311, 1329, 1333, 495, 870, 627] rfl (by decide +kernel)
set_option maxRecDepth 100000 in
theorem eg_mk_4 : eg_ML_4.all eg_mk = true := by decide +kernel
set_option maxRecDepth 100000 in
theorem eg_mw_5 : ∀ w ∈ eg_ML_5.flatMap eg_mw, w ∈ eg_tbl := eg_in _ [73, 503, 73, 500] (by decide +kernel) (by decide +kernel)
set_option maxRecDepth 100000 in
theorem eg_cd_5 : ∀ w ∈ eg_ML_5.map eg_cdw, w ∈ eg_tbl := eg_in _ [504, 501] rfl (by decide +kernel)
set_option maxRecDepth 100000 in
theorem eg_mk_5 : eg_ML_5.all eg_mk = true := by decide +kernel
theorem eg_ML_w : ∀ d ∈ eg_ML, ∀ w ∈ eg_mw d, w ∈ eg_tbl := by
  have key : ∀ (L : List eg_M), (∀ w ∈ L.flatMap eg_mw, w ∈ eg_tbl) → ∀ d ∈ L, ∀ w ∈ eg_mw d, w ∈ eg_tbl := fun L h d hd w hw => h w (List.mem_flatMap.mpr ⟨d, hd, hw⟩)
  intro d hd
  unfold eg_ML at hd
  simp only [List.mem_append] at hd
  rcases hd with h | h | h | h | h | h
  · exact key _ eg_mw_0 d h
  · exact key _ eg_mw_1 d h
  · exact key _ eg_mw_2 d h
  · exact key _ eg_mw_3 d h
  · exact key _ eg_mw_4 d h
  · exact key _ eg_mw_5 d h
theorem eg_ML_c : ∀ d ∈ eg_ML, eg_cdw d ∈ eg_tbl := by
  have key : ∀ (L : List eg_M), (∀ w ∈ L.map eg_cdw, w ∈ eg_tbl) → ∀ d ∈ L, eg_cdw d ∈ eg_tbl := fun L h d hd => h _ (List.mem_map.mpr ⟨d, hd, rfl⟩)
  intro d hd
  unfold eg_ML at hd
  simp only [List.mem_append] at hd
  rcases hd with h | h | h | h | h | h
  · exact key _ eg_cd_0 d h
  · exact key _ eg_cd_1 d h
  · exact key _ eg_cd_2 d h
  · exact key _ eg_cd_3 d h
  · exact key _ eg_cd_4 d h
  · exact key _ eg_cd_5 d h
theorem eg_ML_k : ∀ d ∈ eg_ML, eg_mk d = true := by
  intro d hd
  unfold eg_ML at hd
  simp only [List.mem_append] at hd
  rcases hd with h | h | h | h | h | h
  · exact List.all_eq_true.mp eg_mk_0 d h
  · exact List.all_eq_true.mp eg_mk_1 d h
  · exact List.all_eq_true.mp eg_mk_2 d h
  · exact List.all_eq_true.mp eg_mk_3 d h
  · exact List.all_eq_true.mp eg_mk_4 d h
  · exact List.all_eq_true.mp eg_mk_5 d h
/-- field links: class, index, the field's class, its place -/
def eg_FL : List (Nat × Nat × Nat × Nat) := [(0, 9, 0, 1), (0, 15, 0, 2), (0, 18, 0, 0), (0, 28, 0, 3), (0, 32, 0, 4), (0, 37, 0, 5), (0, 40, 0, 6), (0, 43, 8, 0), (0, 52, 8, 1), (0, 55, 8, 2), (1, 12, 1, 0), (1, 22, 10, 4), (1, 44, 2, 0), (1, 50, 10, 3), (1, 57, 10, 0), (1, 60, 10, 1), (1, 88, 1, 1), (1, 91, 1, 2), (1, 95, 1, 3), (1, 98, 1, 4), (1, 103, 2, 5), (1, 106, 2, 6), (1, 109, 2, 2), (1, 119, 2, 3), (1, 121, 2, 4), (2, 9, 2, 0), (2, 15, 2, 1), (2, 22, 2, 2), (2, 26, 2, 3), (2, 29, 2, 4), (2, 32, 2, 5), (3, 12, 3, 0), (3, 18, 3, 1), (3, 22, 3, 2), (3, 25, 3, 3), (3, 33, 10, 4), (3, 37, 10, 1), (3, 40, 10, 0), (3, 51, 3, 4), (3, 76, 10, 2), (3, 91, 3, 5), (3, 95, 3, 6), (3, 98, 3, 7), (3, 101, 3, 8), (3, 116, 10, 3), (3, 119, 2, 5), (3, 122, 2, 6), (3, 125, 2, 0), (3, 128, 2, 2), (4, 7, 4, 1), (4, 17, 4, 0), (5, 7, 5, 0), (5, 23, 8, 0), (5, 29, 5, 2), (5, 33, 8, 1), (5, 36, 5, 3), (5, 39, 8, 2), (5, 42, 5, 4), (5, 45, 5, 1), (6, 9, 6, 0), (6, 15, 6, 1), (7, 12, 7, 0), (7, 18, 7, 2), (7, 22, 7, 3), (7, 25, 7, 1), (7, 33, 7, 4), (7, 37, 7, 5), (8, 9, 8, 0), (8, 15, 8, 1), (8, 18, 8, 2), (8, 21, 8, 3), (8, 25, 8, 4), (9, 9, 9, 0), (9, 15, 9, 1), (9, 19, 9, 2), (10, 9, 10, 0), (10, 15, 10, 1), (10, 18, 10, 2), (10, 21, 10, 3), (10, 24, 10, 4), (10, 28, 8, 4), (10, 31, 8, 3), (10, 35, 8, 0), (10, 36, 8, 1), (10, 37, 8, 2), (11, 11, 11, 0), (11, 17, 11, 1), (11, 23, 11, 2), (11, 30, 11, 3), (11, 37, 11, 4), (11, 44, 11, 5), (11, 51, 11, 6), (11, 58, 11, 7), (11, 65, 11, 8), (11, 109, 8, 3), (11, 115, 8, 0), (11, 119, 8, 1), (11, 122, 8, 2), (11, 128, 8, 4), (11, 136, 6, 0), (11, 139, 6, 1), (11, 174, 9, 2), (11, 177, 9, 0), (11, 180, 9, 1), (11, 215, 2, 6), (11, 221, 2, 5), (11, 225, 2, 0), (11, 228, 2, 2), (11, 238, 2, 1), (11, 242, 2, 4), (11, 245, 2, 3), (11, 268, 5, 1), (11, 272, 5, 0), (11, 282, 7, 1), (11, 292, 7, 0), (11, 298, 0, 0), (11, 310, 11, 9), (12, 9, 12, 0), (12, 13, 12, 1), (12, 16, 12, 2), (12, 19, 12, 3), (12, 22, 12, 4), (12, 26, 12, 5), (12, 29, 12, 6), (12, 32, 12, 7), (12, 35, 12, 8), (12, 38, 12, 9), (12, 41, 12, 10), (12, 45, 12, 11), (12, 48, 12, 12), (12, 51, 12, 13), (12, 54, 12, 15), (12, 57, 12, 16), (12, 60, 12, 18), (12, 63, 12, 19), (12, 66, 12, 21), (12, 69, 12, 22), (12, 72, 12, 23), (12, 75, 12, 24), (12, 78, 12, 25), (12, 82, 12, 27), (12, 85, 12, 28), (12, 88, 12, 33), (12, 91, 12, 26), (12, 172, 12, 31), (12, 176, 12, 32), (12, 179, 12, 29), (12, 182, 12, 30), (12, 218, 12, 36), (12, 221, 12, 34), (12, 224, 12, 35), (12, 273, 12, 14), (12, 277, 12, 17), (12, 280, 12, 38), (12, 283, 12, 37), (12, 296, 12, 20), (12, 299, 12, 40), (12, 302, 12, 39), (12, 305, 12, 42), (12, 308, 12, 41)]
def eg_cl (ci : Nat) : vw_C := vwCl.getD ci ("", fun _ => ("", "", "", false), 0)
def eg_fw (q : Nat × Nat × Nat × Nat) : Cond := .fieldLink (eg_cn q.1) q.2.1 ((eg_cl q.2.2.1).2.1 q.2.2.2).1 ((eg_cl q.2.2.1).2.1 q.2.2.2).2.1 ((eg_cl q.2.2.1).2.1 q.2.2.2).2.2.1
set_option maxRecDepth 100000 in
theorem eg_FL_w : ∀ w ∈ eg_FL.map eg_fw, w ∈ eg_tbl := eg_in _ [268, 269, 266, 270, 271, 272, 273, 297, 302, 307, 180, 131, 353, 127, 120, 123, 181, 182, 183, 184, 370, 373, 360, 363, 366, 352, 356, 358, 362, 365, 368, 143, 144, 145, 146, 130, 122, 119, 147, 125, 148, 149, 150, 151, 128, 369, 372, 354, 359, 233, 232, 202, 296, 206, 301, 207, 306, 208, 204, 96, 98, 239, 243, 244, 241, 245, 246, 294, 299, 304, 309, 312, 332, 334, 336, 118, 121, 124, 126, 129, 313, 310, 295, 300, 305, 390, 391, 392, 393, 394, 395, 396, 397, 398, 311, 298, 303, 308, 314, 97, 99, 337, 333, 335, 374, 371, 355, 361, 357, 367, 364, 205, 203, 242, 240, 267, 399, 889, 890, 891, 892, 893, 894, 895, 896, 897, 898, 899, 900, 901, 902, 904, 905, 907, 908, 910, 911, 912, 913, 914, 916, 917, 922, 915, 920, 921, 918, 919, 925, 923, 924, 903, 906, 927, 926, 909, 929, 928, 931, 930] (by decide +kernel) (by decide +kernel)
theorem eg_FL_k : eg_FL.all (fun q => decide (q.2.2.1 < 13) && decide (q.2.2.2 < (eg_cl q.2.2.1).2.2)) = true := by decide +kernel
def eg_fty (ci k : Nat) : FieldType := (match ci with
  | 0 => tyX0 k
  | 1 => tyX1 k
  | 2 => tyX2 k
  | 3 => tyX3 k
  | 4 => tyX4 k
  | 5 => tyX5 k
  | 6 => tyX6 k
  | 7 => tyX7 k
  | 8 => tyX8 k
  | 9 => tyX9 k
  | 10 => tyX10 k
  | 11 => tyX11 k
  | _ => tyX12 k)
def eg_ffin (ci k : Nat) : Bool := ((eg_cl ci).2.1 k).2.2.2
abbrev n_Boxes_init : Nat := 0
abbrev n_Boxes_setSide : Nat := 1
abbrev n_Boxes_firstEntered : Nat := 2
abbrev n_Boxes_isEntered : Nat := 3
abbrev n_Boxes_narrow : Nat := 4
abbrev n_Circ_init : Nat := 5
abbrev n_Circ_fitCircle : Nat := 6
abbrev n_Circ_holdOnePlace : Nat := 7
abbrev n_Circ_holdPair : Nat := 8
abbrev n_Circ_holdThree : Nat := 9
abbrev n_Circ_findSharpThree : Nat := 10
abbrev n_Circ_isSharp : Nat := 11
abbrev n_Circ_isNewPlace : Nat := 12
abbrev n_Circ_setCircle : Nat := 13
abbrev n_Circ_setCircleOfThree : Nat := 14
abbrev n_Circ_outside : Nat := 15
abbrev n_Circ_hasNoneOutside : Nat := 16
abbrev n_Circ_finish : Nat := 17
abbrev n_Fig_init : Nat := 18
abbrev n_Fig_isOne : Nat := 19
abbrev n_Fig_isOfKind : Nat := 20
abbrev n_Fig_keeps : Nat := 21
abbrev n_Fig_leastKept : Nat := 22
abbrev n_Fig_setDirection : Nat := 23
abbrev n_Flat_init : Nat := 24
abbrev n_Flat_fitLine : Nat := 25
abbrev n_Flat_fitPlane : Nat := 26
abbrev n_Flat_start : Nat := 27
abbrev n_Flat_trySecondPairs : Nat := 28
abbrev n_Flat_crossProduct : Nat := 29
abbrev n_Flat_isBetter : Nat := 30
abbrev n_Flat_keepBest : Nat := 31
abbrev n_Flat_crossOf : Nat := 32
abbrev n_Flat_isBeaten : Nat := 33
abbrev n_Flat_hold : Nat := 34
abbrev n_Flat_finish : Nat := 35
abbrev n_Frac_init : Nat := 36
abbrev n_Frac_become : Nat := 37
abbrev n_Frac_side : Nat := 38
abbrev n_Frac_commonMeasure : Nat := 39
abbrev n_Frac_isLess : Nat := 40
abbrev n_Frac_lower : Nat := 41
abbrev n_Frame_init : Nat := 42
abbrev n_Frame_layWays : Nat := 43
abbrev n_Frame_setWay : Nat := 44
abbrev n_Frame_begin : Nat := 45
abbrev n_Frame_along : Nat := 46
abbrev n_Grid_init : Nat := 47
abbrev n_Grid_tooGreat : Nat := 48
abbrev n_Outl_init : Nat := 49
abbrev n_Outl_endsAt : Nat := 50
abbrev n_Outl_add : Nat := 51
abbrev n_Outl_findNearest : Nat := 52
abbrev n_Outl_measure : Nat := 53
abbrev n_Part_init : Nat := 54
abbrev n_Part_room : Nat := 55
abbrev n_Part_add : Nat := 56
abbrev n_Part_addMissed : Nat := 57
abbrev n_Part_empty : Nat := 58
abbrev n_Part_touchedCount : Nat := 59
abbrev n_Sheet_init : Nat := 60
abbrev n_Sheet_isMissing : Nat := 61
abbrev n_Sheet_renew : Nat := 62
abbrev n_Sheet_hasRun : Nat := 63
abbrev n_Sheet_wholeOfBits : Nat := 64
abbrev n_Tou_init : Nat := 65
abbrev n_Tou_gather : Nat := 66
abbrev n_Tou_isOnePlace : Nat := 67
abbrev n_X_init : Nat := 68
abbrev n_X_point : Nat := 69
abbrev n_X_miss : Nat := 70
abbrev n_X_clear : Nat := 71
abbrev n_X_at : Nat := 72
abbrev n_X_points : Nat := 73
abbrev n_X_mend : Nat := 74
abbrev n_X_grid : Nat := 75
abbrev n_X_off : Nat := 76
abbrev n_X_apart : Nat := 77
abbrev n_X_sheet : Nat := 78
abbrev n_X_put : Nat := 79
abbrev n_X_bits : Nat := 80
abbrev n_X_copy : Nat := 81
abbrev n_X_lay : Nat := 82
abbrev n_X_fit : Nat := 83
abbrev n_X_drop : Nat := 84
abbrev n_X_as : Nat := 85
abbrev n_X_held : Nat := 86
abbrev n_X_missOf : Nat := 87
abbrev n_X_way : Nat := 88
abbrev n_X_middle : Nat := 89
abbrev n_X_ask : Nat := 90
abbrev n_X_level : Nat := 91
abbrev n_X_more : Nat := 92
abbrev n_X_frame : Nat := 93
abbrev n_X_axis : Nat := 94
abbrev n_X_inFrame : Nat := 95
abbrev n_X_corner : Nat := 96
abbrev n_X_open : Nat := 97
abbrev n_X_nearest : Nat := 98
abbrev n_X_far : Nat := 99
abbrev n_X_box : Nat := 100
abbrev n_X_unbox : Nat := 101
abbrev n_X_move : Nat := 102
abbrev n_X_path : Nat := 103
abbrev n_X_told : Nat := 104
abbrev n_X_found : Nat := 105
abbrev n_X_isWithin : Nat := 106
abbrev n_X_isPlace : Nat := 107
abbrev n_X_isDirection : Nat := 108
abbrev n_X_isBoxSide : Nat := 109
abbrev n_X_isPart : Nat := 110
abbrev n_X_isSheet : Nat := 111
abbrev n_X_isFigure : Nat := 112
abbrev n_X_isPoint : Nat := 113
abbrev n_X_mendPoint : Nat := 114
abbrev n_X_cut : Nat := 115
abbrev n_X_squareApart : Nat := 116
abbrev n_X_layPoints : Nat := 117
abbrev n_X_outlineFinding : Nat := 118
abbrev n_X_figureCount : Nat := 119
abbrev n_M_init : Nat := 120
abbrev n_M_finding : Nat := 121
abbrev n_M_isIn : Nat := 122
abbrev n_M_isPart : Nat := 123
abbrev n_M_isPoint : Nat := 124
abbrev n_M_at_II : Nat := 125
abbrev n_M_add : Nat := 126
abbrev n_M_isNear : Nat := 127
abbrev n_M_point : Nat := 128
abbrev n_M_miss : Nat := 129
abbrev n_M_clear : Nat := 130
abbrev n_M_at_III : Nat := 131
abbrev n_M_points : Nat := 132
abbrev n_M_offOf : Nat := 133
abbrev n_M_held_I : Nat := 134
abbrev n_M_mend : Nat := 135
abbrev n_M_grid : Nat := 136
abbrev n_M_off : Nat := 137
abbrev n_M_apart : Nat := 138
abbrev n_M_isSheet : Nat := 139
abbrev n_M_sheet : Nat := 140
abbrev n_M_put : Nat := 141
abbrev n_M_bits : Nat := 142
abbrev n_M_hasPart : Nat := 143
abbrev n_M_copy : Nat := 144
abbrev n_M_isGood : Nat := 145
abbrev n_M_numberOf : Nat := 146
abbrev n_M_lay : Nat := 147
abbrev n_M_isLess : Nat := 148
abbrev n_M_common : Nat := 149
abbrev n_M_isFigure : Nat := 150
abbrev n_M_keepMiss : Nat := 151
abbrev n_M_lowest : Nat := 152
abbrev n_M_crosses : Nat := 153
abbrev n_M_isHere : Nat := 154
abbrev n_M_fitLine : Nat := 155
abbrev n_M_tellNormal : Nat := 156
abbrev n_M_squareOf : Nat := 157
abbrev n_M_fitPlane : Nat := 158
abbrev n_M_isRoundOf : Nat := 159
abbrev n_M_tellMiddle : Nat := 160
abbrev n_M_outside : Nat := 161
abbrev n_M_hasAll : Nat := 162
abbrev n_M_isSharp : Nat := 163
abbrev n_M_keepMiddle : Nat := 164
abbrev n_M_fitCircle : Nat := 165
abbrev n_M_circleOfThree : Nat := 166
abbrev n_M_fit : Nat := 167
abbrev n_M_drop : Nat := 168
abbrev n_M_isFlat : Nat := 169
abbrev n_M_as : Nat := 170
abbrev n_M_held_II : Nat := 171
abbrev n_M_missOf : Nat := 172
abbrev n_M_way : Nat := 173
abbrev n_M_middle : Nat := 174
abbrev n_M_levelOf : Nat := 175
abbrev n_M_ask : Nat := 176
abbrev n_M_level : Nat := 177
abbrev n_M_more : Nat := 178
abbrev n_M_frame : Nat := 179
abbrev n_M_axis : Nat := 180
abbrev n_M_inFrame : Nat := 181
abbrev n_M_corner : Nat := 182
abbrev n_M_open : Nat := 183
abbrev n_M_tellFar : Nat := 184
abbrev n_M_nearestOf : Nat := 185
abbrev n_M_askNear : Nat := 186
abbrev n_M_nearest : Nat := 187
abbrev n_M_far : Nat := 188
abbrev n_M_box : Nat := 189
abbrev n_M_unbox : Nat := 190
abbrev n_M_cut : Nat := 191
abbrev n_M_goesInto : Nat := 192
abbrev n_M_intoOf : Nat := 193
abbrev n_M_move : Nat := 194
abbrev n_M_path : Nat := 195
abbrev n_M_told : Nat := 196
abbrev n_Math_floorDiv : Nat := 197
abbrev n_Math_abs_I : Nat := 198
abbrev n_Math_abs_J : Nat := 199
abbrev n_Math_max : Nat := 200
abbrev n_Math_min : Nat := 201
def eg_md (n : Nat) : eg_M := eg_ML.getD n m_X_found
theorem eg_md_in {n : Nat} (h : n < 202) : eg_md n ∈ eg_ML := by
  have hl : eg_ML.length = 202 := by rfl
  unfold eg_md
  rw [List.getD_eq_getElem?_getD, List.getElem?_eq_getElem (by omega)]
  exact List.getElem_mem _
/-- call links: class, index, the number of the method -/
def eg_CL : List (Nat × Nat × Nat) := [(11, 72, 110), (11, 76, 107), (11, 80, 106), (11, 86, 105), (11, 90, 55), (11, 96, 56), (11, 100, 57), (11, 103, 58), (11, 106, 113), (11, 125, 59), (11, 132, 114), (11, 142, 48), (11, 146, 201), (11, 154, 116), (11, 160, 111), (11, 165, 62), (11, 168, 61), (11, 185, 64), (11, 189, 63), (11, 198, 117), (11, 202, 112), (11, 205, 25), (11, 209, 26), (11, 212, 6), (11, 218, 19), (11, 222, 20), (11, 232, 38), (11, 248, 21), (11, 251, 22), (11, 254, 200), (11, 257, 108), (11, 260, 43), (11, 264, 45), (11, 275, 46), (11, 279, 50), (11, 283, 51), (11, 285, 118), (11, 289, 52), (11, 295, 109), (11, 299, 1), (11, 303, 2), (11, 307, 119), (11, 314, 115), (0, 22, 3), (0, 48, 4), (0, 58, 198), (1, 18, 66), (1, 26, 7), (1, 30, 8), (1, 33, 9), (1, 36, 67), (1, 40, 13), (1, 53, 17), (1, 65, 16), (1, 69, 10), (1, 72, 15), (1, 76, 12), (1, 80, 11), (1, 84, 14), (1, 113, 37), (2, 41, 38), (2, 45, 21), (2, 51, 41), (3, 29, 27), (3, 43, 30), (3, 47, 34), (3, 55, 23), (3, 61, 35), (3, 65, 28), (3, 69, 66), (3, 72, 29), (3, 79, 32), (3, 83, 33), (3, 87, 31), (3, 110, 40), (3, 132, 37), (4, 13, 39), (4, 20, 199), (5, 13, 44), (5, 17, 41), (6, 19, 197), (7, 29, 53), (7, 40, 40), (7, 44, 37), (12, 95, 122), (12, 99, 123), (12, 103, 125), (12, 107, 127), (12, 112, 121), (12, 118, 126), (12, 122, 124), (12, 129, 133), (12, 133, 134), (12, 140, 139), (12, 155, 143), (12, 162, 145), (12, 165, 146), (12, 168, 149), (12, 185, 154), (12, 188, 153), (12, 192, 148), (12, 196, 151), (12, 200, 152), (12, 206, 156), (12, 210, 157), (12, 227, 161), (12, 231, 164), (12, 235, 159), (12, 238, 166), (12, 242, 160), (12, 246, 163), (12, 250, 162), (12, 255, 150), (12, 258, 155), (12, 261, 158), (12, 264, 165), (12, 267, 169), (12, 270, 175), (12, 286, 184), (12, 290, 186), (12, 293, 185), (12, 315, 191), (12, 318, 192), (12, 321, 193)]
def eg_CN : List (Nat × Nat × Nat) := [(11, 29, 47), (11, 36, 24), (11, 43, 5), (11, 50, 42), (11, 57, 49), (11, 64, 0), (11, 69, 54), (11, 70, 60), (11, 71, 18), (1, 11, 65), (2, 21, 36), (3, 11, 65), (7, 11, 36)]
def eg_cw (q : Nat × Nat × Nat) : Cond := .methodLink (eg_cn q.1) q.2.1 (eg_y (eg_md q.2.2))
def eg_cnw (q : Nat × Nat × Nat) : Cond := .methodLinkNest (eg_cn q.1) q.2.1 (eg_y (eg_md q.2.2)) "TouchBench"
set_option maxRecDepth 100000 in
theorem eg_CL_w : ∀ w ∈ eg_CL.map eg_cw, w ∈ eg_tbl := eg_in _ [425, 431, 428, 435, 439, 444, 452, 460, 468, 477, 485, 489, 499, 518, 526, 530, 538, 548, 557, 568, 575, 578, 636, 648, 708, 716, 730, 746, 756, 502, 769, 772, 781, 793, 801, 805, 817, 821, 839, 842, 854, 879, 496, 858, 864, 868, 652, 653, 670, 683, 657, 661, 665, 675, 687, 679, 700, 691, 695, 669, 751, 760, 619, 582, 590, 610, 614, 628, 640, 586, 644, 594, 598, 605, 602, 632, 622, 625, 776, 780, 493, 825, 829, 830, 1027, 1024, 1043, 1030, 1034, 1039, 1058, 1071, 1076, 1097, 1118, 1126, 1132, 1162, 1147, 1151, 1155, 1158, 1165, 1173, 1177, 1211, 1186, 1190, 1195, 1199, 1203, 1207, 1140, 1143, 1169, 1182, 1224, 1248, 1292, 1284, 1288, 1322, 1316, 1312] (by decide +kernel) (by decide +kernel)
set_option maxRecDepth 100000 in
theorem eg_CN_w : ∀ w ∈ eg_CN.map eg_cnw, w ∈ lw_tbl := eg_inl _ [92, 108, 174, 198, 222, 262, 290, 328, 346, 179, 351, 114, 228] (by decide +kernel)
def eg_KL : List (Nat × Nat × Int) := [(6, 18, 90000), (12, 128, 90000)]
def eg_LL : List (Nat × Nat × Int) := [(0, 26, -1), (0, 35, 2), (1, 63, 2), (1, 101, -1), (2, 39, 4), (2, 49, -1), (9, 22, 2047), (9, 24, 4503599627370496), (11, 84, -1000000000000000001), (11, 94, -1000000000000000005), (11, 113, -1000000000000000007), (11, 152, -1), (11, 158, -1000000000000000006), (11, 163, -1000000000000000003), (11, 172, -1000000000000000002), (11, 183, -1000000000000000004), (12, 110, -1000000000000000001), (12, 116, -1000000000000000005), (12, 126, -1000000000000000007), (12, 136, -1), (12, 138, -1000000000000000006), (12, 143, -1000000000000000003), (12, 145, -1000000000000000002), (12, 147, -1000000000000000004), (12, 204, 4), (12, 214, 6), (12, 216, 2), (12, 253, 3), (12, 311, 1000000), (12, 313, 1000001)]
theorem eg_KL_w : ∀ w ∈ eg_KL.map (fun q => Cond.constant (eg_cn q.1) q.2.1 (Int32.ofInt q.2.2)), w ∈ eg_tbl := eg_in _ [492, 1075] (by decide +kernel) (by decide +kernel)
theorem eg_LL_w : ∀ w ∈ eg_LL.map (fun q => Cond.constantLong (eg_cn q.1) q.2.1 (Int64.ofInt q.2.2)), w ∈ eg_tbl := eg_in _ [862, 863, 674, 699, 750, 618, 551, 552, 434, 443, 472, 517, 521, 529, 542, 547, 1033, 1038, 1062, 1091, 1092, 1100, 1105, 1110, 1168, 1181, 1194, 1215, 1320, 1321] (by decide +kernel) (by decide +kernel)
def eg_DL : List (Nat × Nat × Nat) := [(12, 158, 13867357308859711488), (12, 160, 4643985272004935680)]
theorem eg_DL_w : ∀ w ∈ eg_DL.map (fun q => Cond.constantDouble (eg_cn q.1) q.2.1 (UInt64.ofNat q.2.2)), w ∈ eg_tbl := eg_in _ [1130, 1131] (by decide +kernel) (by decide +kernel)
/-- class links: class, index, the class -/
def eg_NL : List (Nat × Nat × Nat) := [(1, 9, 10), (2, 19, 4), (3, 9, 10), (7, 9, 4), (11, 9, 8), (11, 15, 9), (11, 21, 2), (11, 27, 6), (11, 34, 3), (11, 41, 1), (11, 48, 5), (11, 55, 7), (11, 62, 0)]
theorem eg_NL_w : ∀ w ∈ eg_NL.map (fun q => Cond.classLink (eg_cn q.1) q.2.1 (eg_cn q.2.2)), w ∈ eg_tbl := eg_in _ [178, 350, 112, 226, 84, 86, 88, 90, 106, 172, 196, 220, 260] (by decide +kernel) (by decide +kernel)
theorem eg_IN_w : ∀ w ∈ ([0, 1, 2, 3, 4, 5, 6, 7, 8, 9, 10, 11, 12] : List Nat).map (fun c => Cond.instantiable (eg_cn c) (eg_cl c).2.2), w ∈ eg_tbl := eg_in _ [261, 173, 345, 107, 227, 197, 91, 221, 289, 327, 113, 77, 884] (by decide +kernel) (by decide +kernel)
theorem eg_II_w : ∀ w ∈ ([0, 1, 2, 3, 4, 5, 6, 7, 8, 9, 10, 11, 12] : List Nat).map (fun c => Cond.initialized (eg_cn c)), w ∈ eg_tbl := eg_in _ [68, 64, 71, 62, 67, 65, 61, 66, 69, 70, 63, 60, 72] (by decide +kernel) (by decide +kernel)
theorem eg_cn_cl : ∀ c, c < 13 → (eg_cl c).1 = eg_cn c := by decide +kernel
theorem eg_ac_int : Cond.arrayClass .int ∈ eg_tbl := eg_in [Cond.arrayClass .int] [105] (by decide +kernel) (by decide +kernel) _ List.mem_cons_self
theorem eg_ac_long : Cond.arrayClass .long ∈ eg_tbl := eg_in [Cond.arrayClass .long] [171] (by decide +kernel) (by decide +kernel) _ List.mem_cons_self
theorem eg_ac_boolean : Cond.arrayClass .boolean ∈ eg_tbl := eg_in [Cond.arrayClass .boolean] [326] (by decide +kernel) (by decide +kernel) _ List.mem_cons_self
theorem eg_ac_double : Cond.arrayClass .double ∈ eg_tbl := eg_in [Cond.arrayClass .double] [1019] (by decide +kernel) (by decide +kernel) _ List.mem_cons_self
theorem eg_ao_Part : Cond.arrayOver (.object "TouchBench$Part") ∈ lw_tbl := eg_inl [Cond.arrayOver (.object "TouchBench$Part")] [85] (by decide +kernel) _ List.mem_cons_self
theorem eg_ao_Sheet : Cond.arrayOver (.object "TouchBench$Sheet") ∈ lw_tbl := eg_inl [Cond.arrayOver (.object "TouchBench$Sheet")] [87] (by decide +kernel) _ List.mem_cons_self
theorem eg_ao_Figure : Cond.arrayOver (.object "TouchBench$Figure") ∈ lw_tbl := eg_inl [Cond.arrayOver (.object "TouchBench$Figure")] [89] (by decide +kernel) _ List.mem_cons_self
/-- links to Object.<init> -/
def eg_OL : List (Nat × Nat) := [(11, 3), (6, 3), (3, 3), (10, 3), (1, 3), (5, 1), (7, 3), (4, 1), (0, 3), (8, 3), (9, 3), (2, 3), (12, 3)]
theorem eg_OL_w : ∀ w ∈ eg_OL.map (fun q => Cond.methodLink (eg_cn q.1) q.2 objectInit), w ∈ eg_tbl := eg_in _ [81, 95, 111, 117, 177, 201, 225, 231, 265, 293, 331, 349, 888] (by decide +kernel) (by decide +kernel)
theorem eg_oi : ∀ w ∈ [Cond.instanceMethod objectInit, Cond.code objectInit ⟨#[0xb1]⟩ 1 none], w ∈ eg_tbl := eg_in _ [82, 83] (by decide +kernel) (by decide +kernel)
def eg_AL : List (Nat × Nat) := [(11, 192), (3, 104)]
theorem eg_AL_w : ∀ w ∈ eg_AL.map (fun q => Cond.methodLink (eg_cn q.1) q.2 arraycopyName), w ∈ eg_tbl := eg_in _ [561, 609] (by decide +kernel) (by decide +kernel)
theorem eg_an : ∀ w ∈ [Cond.native arraycopyName, Cond.static arraycopyName, Cond.initialized "java/lang/System"], w ∈ eg_tbl := eg_in _ [563, 562, 75] (by decide +kernel) (by decide +kernel)
theorem eg_bn : ∀ w ∈ [Cond.methodLink "TouchBenchModel" 149 ⟨"java/lang/Double", "longBitsToDouble", "(J)D"⟩, Cond.native ⟨"java/lang/Double", "longBitsToDouble", "(J)D"⟩, Cond.static ⟨"java/lang/Double", "longBitsToDouble", "(J)D"⟩, Cond.initialized "java/lang/Double"], w ∈ eg_tbl := eg_in _ [1111, 1113, 1112, 74] (by decide +kernel) (by decide +kernel)
theorem eg_un : Cond.fieldLinkNest "TouchBench$Figure" 36 "TouchBench" "UNDER" "[I" "TouchBench" ∈ lw_tbl := eg_inl [Cond.fieldLinkNest "TouchBench$Figure" 36 "TouchBench" "UNDER" "[I" "TouchBench"] [720] (by decide +kernel) _ List.mem_cons_self
