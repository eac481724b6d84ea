abbrev CT_X0_init (G : Gx) (l : Launch) (As : List PV) (h : PH) (PQ : Option PV → PH → Prop) : Prop := CT G l yX0_init cX0_init 1 (Option.none : Option Jvm.ClassFile.FieldType) 1 20 2 32 As h PQ
abbrev CX_X0_init (G : Gx) (X : Cx) : Prop := pw_Ctx G X cX0_init 1 yX0_init.cls yX0_init.name (Option.none : Option Jvm.ClassFile.FieldType) { frames := 1, cells := 2, slots := 32, locals := 20 }
abbrev CT_X0_start (G : Gx) (l : Launch) (As : List PV) (h : PH) (PQ : Option PV → PH → Prop) : Prop := CT G l yX0_start cX0_start 3 (Option.none : Option Jvm.ClassFile.FieldType) 0 0 0 0 As h PQ
abbrev CX_X0_start (G : Gx) (X : Cx) : Prop := pw_Ctx G X cX0_start 3 yX0_start.cls yX0_start.name (Option.none : Option Jvm.ClassFile.FieldType) { frames := 0, cells := 0, slots := 0, locals := 0 }
abbrev CT_X0_addPoint (G : Gx) (l : Launch) (As : List PV) (h : PH) (PQ : Option PV → PH → Prop) : Prop := CT G l yX0_addPoint cX0_addPoint 3 (Option.none : Option Jvm.ClassFile.FieldType) 0 0 0 0 As h PQ
abbrev CX_X0_addPoint (G : Gx) (X : Cx) : Prop := pw_Ctx G X cX0_addPoint 3 yX0_addPoint.cls yX0_addPoint.name (Option.none : Option Jvm.ClassFile.FieldType) { frames := 0, cells := 0, slots := 0, locals := 0 }
abbrev CT_X0_isTaken (G : Gx) (l : Launch) (As : List PV) (h : PH) (PQ : Option PV → PH → Prop) : Prop := CT G l yX0_isTaken cX0_isTaken 1 (Option.some Jvm.ClassFile.FieldType.boolean) 0 0 0 0 As h PQ
abbrev CX_X0_isTaken (G : Gx) (X : Cx) : Prop := pw_Ctx G X cX0_isTaken 1 yX0_isTaken.cls yX0_isTaken.name (Option.some Jvm.ClassFile.FieldType.boolean) { frames := 0, cells := 0, slots := 0, locals := 0 }
abbrev CT_X0_isOpen (G : Gx) (l : Launch) (As : List PV) (h : PH) (PQ : Option PV → PH → Prop) : Prop := CT G l yX0_isOpen cX0_isOpen 1 (Option.some Jvm.ClassFile.FieldType.boolean) 1 20 0 0 As h PQ
abbrev CX_X0_isOpen (G : Gx) (X : Cx) : Prop := pw_Ctx G X cX0_isOpen 1 yX0_isOpen.cls yX0_isOpen.name (Option.some Jvm.ClassFile.FieldType.boolean) { frames := 1, cells := 0, slots := 0, locals := 20 }
abbrev CT_X0_lastTick (G : Gx) (l : Launch) (As : List PV) (h : PH) (PQ : Option PV → PH → Prop) : Prop := CT G l yX0_lastTick cX0_lastTick 1 (Option.some Jvm.ClassFile.FieldType.int) 0 0 0 0 As h PQ
abbrev CX_X0_lastTick (G : Gx) (X : Cx) : Prop := pw_Ctx G X cX0_lastTick 1 yX0_lastTick.cls yX0_lastTick.name (Option.some Jvm.ClassFile.FieldType.int) { frames := 0, cells := 0, slots := 0, locals := 0 }
abbrev CT_X0_copyFrom (G : Gx) (l : Launch) (As : List PV) (h : PH) (PQ : Option PV → PH → Prop) : Prop := CT G l yX0_copyFrom cX0_copyFrom 2 (Option.none : Option Jvm.ClassFile.FieldType) 1 40 0 0 As h PQ
abbrev CX_X0_copyFrom (G : Gx) (X : Cx) : Prop := pw_Ctx G X cX0_copyFrom 2 yX0_copyFrom.cls yX0_copyFrom.name (Option.none : Option Jvm.ClassFile.FieldType) { frames := 1, cells := 0, slots := 0, locals := 40 }
abbrev CT_X1_init (G : Gx) (l : Launch) (As : List PV) (h : PH) (PQ : Option PV → PH → Prop) : Prop := CT G l yX1_init cX1_init 1 (Option.none : Option Jvm.ClassFile.FieldType) 1 20 0 0 As h PQ
abbrev CX_X1_init (G : Gx) (X : Cx) : Prop := pw_Ctx G X cX1_init 1 yX1_init.cls yX1_init.name (Option.none : Option Jvm.ClassFile.FieldType) { frames := 1, cells := 0, slots := 0, locals := 20 }
abbrev CT_X1_turnTo (G : Gx) (l : Launch) (As : List PV) (h : PH) (PQ : Option PV → PH → Prop) : Prop := CT G l yX1_turnTo cX1_turnTo 4 (Option.none : Option Jvm.ClassFile.FieldType) 0 0 0 0 As h PQ
abbrev CX_X1_turnTo (G : Gx) (X : Cx) : Prop := pw_Ctx G X cX1_turnTo 4 yX1_turnTo.cls yX1_turnTo.name (Option.none : Option Jvm.ClassFile.FieldType) { frames := 0, cells := 0, slots := 0, locals := 0 }
abbrev CT_X1_copyFrom (G : Gx) (l : Launch) (As : List PV) (h : PH) (PQ : Option PV → PH → Prop) : Prop := CT G l yX1_copyFrom cX1_copyFrom 2 (Option.none : Option Jvm.ClassFile.FieldType) 1 23 0 0 As h PQ
abbrev CX_X1_copyFrom (G : Gx) (X : Cx) : Prop := pw_Ctx G X cX1_copyFrom 2 yX1_copyFrom.cls yX1_copyFrom.name (Option.none : Option Jvm.ClassFile.FieldType) { frames := 1, cells := 0, slots := 0, locals := 23 }
abbrev CT_X2_init (G : Gx) (l : Launch) (As : List PV) (h : PH) (PQ : Option PV → PH → Prop) : Prop := CT G l yX2_init cX2_init 3 (Option.none : Option Jvm.ClassFile.FieldType) 2 40 29 41505 As h PQ
abbrev CX_X2_init (G : Gx) (X : Cx) : Prop := pw_Ctx G X cX2_init 3 yX2_init.cls yX2_init.name (Option.none : Option Jvm.ClassFile.FieldType) { frames := 2, cells := 29, slots := 41505, locals := 40 }
abbrev CT_X2_forgetWays (G : Gx) (l : Launch) (As : List PV) (h : PH) (PQ : Option PV → PH → Prop) : Prop := CT G l yX2_forgetWays cX2_forgetWays 2 (Option.none : Option Jvm.ClassFile.FieldType) 0 0 0 0 As h PQ
abbrev CX_X2_forgetWays (G : Gx) (X : Cx) : Prop := pw_Ctx G X cX2_forgetWays 2 yX2_forgetWays.cls yX2_forgetWays.name (Option.none : Option Jvm.ClassFile.FieldType) { frames := 0, cells := 0, slots := 0, locals := 0 }
abbrev CT_X2_bestWay (G : Gx) (l : Launch) (As : List PV) (h : PH) (PQ : Option PV → PH → Prop) : Prop := CT G l yX2_bestWay cX2_bestWay 4 (Option.some (Jvm.ClassFile.FieldType.object "DishRounds$Way")) 5 116 0 0 As h PQ
abbrev CX_X2_bestWay (G : Gx) (X : Cx) : Prop := pw_Ctx G X cX2_bestWay 4 yX2_bestWay.cls yX2_bestWay.name (Option.some (Jvm.ClassFile.FieldType.object "DishRounds$Way")) { frames := 5, cells := 0, slots := 0, locals := 116 }
abbrev CT_X2_sharedWay (G : Gx) (l : Launch) (As : List PV) (h : PH) (PQ : Option PV → PH → Prop) : Prop := CT G l yX2_sharedWay cX2_sharedWay 4 (Option.some (Jvm.ClassFile.FieldType.object "DishRounds$Way")) 6 139 0 0 As h PQ
abbrev CX_X2_sharedWay (G : Gx) (X : Cx) : Prop := pw_Ctx G X cX2_sharedWay 4 yX2_sharedWay.cls yX2_sharedWay.name (Option.some (Jvm.ClassFile.FieldType.object "DishRounds$Way")) { frames := 6, cells := 0, slots := 0, locals := 139 }
abbrev CT_X2_goBack (G : Gx) (l : Launch) (As : List PV) (h : PH) (PQ : Option PV → PH → Prop) : Prop := CT G l yX2_goBack cX2_goBack 2 (Option.none : Option Jvm.ClassFile.FieldType) 4 91 0 0 As h PQ
abbrev CX_X2_goBack (G : Gx) (X : Cx) : Prop := pw_Ctx G X cX2_goBack 2 yX2_goBack.cls yX2_goBack.name (Option.none : Option Jvm.ClassFile.FieldType) { frames := 4, cells := 0, slots := 0, locals := 91 }
abbrev CT_X2_follow (G : Gx) (l : Launch) (As : List PV) (h : PH) (PQ : Option PV → PH → Prop) : Prop := CT G l yX2_follow cX2_follow 6 (Option.none : Option Jvm.ClassFile.FieldType) 4 91 0 0 As h PQ
abbrev CX_X2_follow (G : Gx) (X : Cx) : Prop := pw_Ctx G X cX2_follow 6 yX2_follow.cls yX2_follow.name (Option.none : Option Jvm.ClassFile.FieldType) { frames := 4, cells := 0, slots := 0, locals := 91 }
abbrev CT_X2_nextCell (G : Gx) (l : Launch) (As : List PV) (h : PH) (PQ : Option PV → PH → Prop) : Prop := CT G l yX2_nextCell cX2_nextCell 9 (Option.some Jvm.ClassFile.FieldType.int) 2 42 0 0 As h PQ
abbrev CX_X2_nextCell (G : Gx) (X : Cx) : Prop := pw_Ctx G X cX2_nextCell 9 yX2_nextCell.cls yX2_nextCell.name (Option.some Jvm.ClassFile.FieldType.int) { frames := 2, cells := 0, slots := 0, locals := 42 }
abbrev CT_X2_goForth (G : Gx) (l : Launch) (As : List PV) (h : PH) (PQ : Option PV → PH → Prop) : Prop := CT G l yX2_goForth cX2_goForth 4 (Option.none : Option Jvm.ClassFile.FieldType) 4 91 0 0 As h PQ
abbrev CX_X2_goForth (G : Gx) (X : Cx) : Prop := pw_Ctx G X cX2_goForth 4 yX2_goForth.cls yX2_goForth.name (Option.none : Option Jvm.ClassFile.FieldType) { frames := 4, cells := 0, slots := 0, locals := 91 }
abbrev CT_X2_reach (G : Gx) (l : Launch) (As : List PV) (h : PH) (PQ : Option PV → PH → Prop) : Prop := CT G l yX2_reach cX2_reach 7 (Option.none : Option Jvm.ClassFile.FieldType) 2 42 0 0 As h PQ
abbrev CX_X2_reach (G : Gx) (X : Cx) : Prop := pw_Ctx G X cX2_reach 7 yX2_reach.cls yX2_reach.name (Option.none : Option Jvm.ClassFile.FieldType) { frames := 2, cells := 0, slots := 0, locals := 42 }
abbrev CT_X2_tilt (G : Gx) (l : Launch) (As : List PV) (h : PH) (PQ : Option PV → PH → Prop) : Prop := CT G l yX2_tilt cX2_tilt 10 (Option.none : Option Jvm.ClassFile.FieldType) 0 0 0 0 As h PQ
abbrev CX_X2_tilt (G : Gx) (X : Cx) : Prop := pw_Ctx G X cX2_tilt 10 yX2_tilt.cls yX2_tilt.name (Option.none : Option Jvm.ClassFile.FieldType) { frames := 0, cells := 0, slots := 0, locals := 0 }
abbrev CT_X2_turn (G : Gx) (l : Launch) (As : List PV) (h : PH) (PQ : Option PV → PH → Prop) : Prop := CT G l yX2_turn cX2_turn 6 (Option.none : Option Jvm.ClassFile.FieldType) 0 0 0 0 As h PQ
abbrev CX_X2_turn (G : Gx) (X : Cx) : Prop := pw_Ctx G X cX2_turn 6 yX2_turn.cls yX2_turn.name (Option.none : Option Jvm.ClassFile.FieldType) { frames := 0, cells := 0, slots := 0, locals := 0 }
abbrev CT_X2_enterRow (G : Gx) (l : Launch) (As : List PV) (h : PH) (PQ : Option PV → PH → Prop) : Prop := CT G l yX2_enterRow cX2_enterRow 13 (Option.none : Option Jvm.ClassFile.FieldType) 2 45 0 0 As h PQ
abbrev CX_X2_enterRow (G : Gx) (X : Cx) : Prop := pw_Ctx G X cX2_enterRow 13 yX2_enterRow.cls yX2_enterRow.name (Option.none : Option Jvm.ClassFile.FieldType) { frames := 2, cells := 0, slots := 0, locals := 45 }
abbrev CT_X2_aimAt (G : Gx) (l : Launch) (As : List PV) (h : PH) (PQ : Option PV → PH → Prop) : Prop := CT G l yX2_aimAt cX2_aimAt 4 (Option.none : Option Jvm.ClassFile.FieldType) 3 68 0 0 As h PQ
abbrev CX_X2_aimAt (G : Gx) (X : Cx) : Prop := pw_Ctx G X cX2_aimAt 4 yX2_aimAt.cls yX2_aimAt.name (Option.none : Option Jvm.ClassFile.FieldType) { frames := 3, cells := 0, slots := 0, locals := 68 }
abbrev CT_X2_addGain (G : Gx) (l : Launch) (As : List PV) (h : PH) (PQ : Option PV → PH → Prop) : Prop := CT G l yX2_addGain cX2_addGain 7 (Option.none : Option Jvm.ClassFile.FieldType) 2 42 0 0 As h PQ
abbrev CX_X2_addGain (G : Gx) (X : Cx) : Prop := pw_Ctx G X cX2_addGain 7 yX2_addGain.cls yX2_addGain.name (Option.none : Option Jvm.ClassFile.FieldType) { frames := 2, cells := 0, slots := 0, locals := 42 }
abbrev CT_X2_gain (G : Gx) (l : Launch) (As : List PV) (h : PH) (PQ : Option PV → PH → Prop) : Prop := CT G l yX2_gain cX2_gain 3 (Option.some Jvm.ClassFile.FieldType.int) 1 20 0 0 As h PQ
abbrev CX_X2_gain (G : Gx) (X : Cx) : Prop := pw_Ctx G X cX2_gain 3 yX2_gain.cls yX2_gain.name (Option.some Jvm.ClassFile.FieldType.int) { frames := 1, cells := 0, slots := 0, locals := 20 }
abbrev CT_X2_pointOf (G : Gx) (l : Launch) (As : List PV) (h : PH) (PQ : Option PV → PH → Prop) : Prop := CT G l yX2_pointOf cX2_pointOf 3 (Option.some Jvm.ClassFile.FieldType.int) 1 22 0 0 As h PQ
abbrev CX_X2_pointOf (G : Gx) (X : Cx) : Prop := pw_Ctx G X cX2_pointOf 3 yX2_pointOf.cls yX2_pointOf.name (Option.some Jvm.ClassFile.FieldType.int) { frames := 1, cells := 0, slots := 0, locals := 22 }
abbrev CT_X2_mostSeen (G : Gx) (l : Launch) (As : List PV) (h : PH) (PQ : Option PV → PH → Prop) : Prop := CT G l yX2_mostSeen cX2_mostSeen 7 (Option.some Jvm.ClassFile.FieldType.int) 2 42 0 0 As h PQ
abbrev CX_X2_mostSeen (G : Gx) (X : Cx) : Prop := pw_Ctx G X cX2_mostSeen 7 yX2_mostSeen.cls yX2_mostSeen.name (Option.some Jvm.ClassFile.FieldType.int) { frames := 2, cells := 0, slots := 0, locals := 42 }
abbrev CT_X2_lowWind (G : Gx) (l : Launch) (As : List PV) (h : PH) (PQ : Option PV → PH → Prop) : Prop := CT G l yX2_lowWind cX2_lowWind 2 (Option.some Jvm.ClassFile.FieldType.int) 1 21 0 0 As h PQ
abbrev CX_X2_lowWind (G : Gx) (X : Cx) : Prop := pw_Ctx G X cX2_lowWind 2 yX2_lowWind.cls yX2_lowWind.name (Option.some Jvm.ClassFile.FieldType.int) { frames := 1, cells := 0, slots := 0, locals := 21 }
abbrev CT_X2_highWind (G : Gx) (l : Launch) (As : List PV) (h : PH) (PQ : Option PV → PH → Prop) : Prop := CT G l yX2_highWind cX2_highWind 2 (Option.some Jvm.ClassFile.FieldType.int) 1 21 0 0 As h PQ
abbrev CX_X2_highWind (G : Gx) (X : Cx) : Prop := pw_Ctx G X cX2_highWind 2 yX2_highWind.cls yX2_highWind.name (Option.some Jvm.ClassFile.FieldType.int) { frames := 1, cells := 0, slots := 0, locals := 21 }
abbrev CT_X2_cell (G : Gx) (l : Launch) (As : List PV) (h : PH) (PQ : Option PV → PH → Prop) : Prop := CT G l yX2_cell cX2_cell 3 (Option.some Jvm.ClassFile.FieldType.int) 0 0 0 0 As h PQ
abbrev CX_X2_cell (G : Gx) (X : Cx) : Prop := pw_Ctx G X cX2_cell 3 yX2_cell.cls yX2_cell.name (Option.some Jvm.ClassFile.FieldType.int) { frames := 0, cells := 0, slots := 0, locals := 0 }
abbrev CT_X2_isDead (G : Gx) (l : Launch) (As : List PV) (h : PH) (PQ : Option PV → PH → Prop) : Prop := CT G l yX2_isDead cX2_isDead 1 (Option.some Jvm.ClassFile.FieldType.boolean) 0 0 0 0 As h PQ
abbrev CX_X2_isDead (G : Gx) (X : Cx) : Prop := pw_Ctx G X cX2_isDead 1 yX2_isDead.cls yX2_isDead.name (Option.some Jvm.ClassFile.FieldType.boolean) { frames := 0, cells := 0, slots := 0, locals := 0 }
abbrev CT_X3_init (G : Gx) (l : Launch) (As : List PV) (h : PH) (PQ : Option PV → PH → Prop) : Prop := CT G l yX3_init cX3_init 1 (Option.none : Option Jvm.ClassFile.FieldType) 1 20 0 0 As h PQ
abbrev CX_X3_init (G : Gx) (X : Cx) : Prop := pw_Ctx G X cX3_init 1 yX3_init.cls yX3_init.name (Option.none : Option Jvm.ClassFile.FieldType) { frames := 1, cells := 0, slots := 0, locals := 20 }
abbrev CT_X3_putSun (G : Gx) (l : Launch) (As : List PV) (h : PH) (PQ : Option PV → PH → Prop) : Prop := CT G l yX3_putSun cX3_putSun 5 (Option.none : Option Jvm.ClassFile.FieldType) 0 0 0 0 As h PQ
abbrev CX_X3_putSun (G : Gx) (X : Cx) : Prop := pw_Ctx G X cX3_putSun 5 yX3_putSun.cls yX3_putSun.name (Option.none : Option Jvm.ClassFile.FieldType) { frames := 0, cells := 0, slots := 0, locals := 0 }
abbrev CT_X3_isSunSide (G : Gx) (l : Launch) (As : List PV) (h : PH) (PQ : Option PV → PH → Prop) : Prop := CT G l yX3_isSunSide cX3_isSunSide 5 (Option.some Jvm.ClassFile.FieldType.boolean) 1 21 0 0 As h PQ
abbrev CX_X3_isSunSide (G : Gx) (X : Cx) : Prop := pw_Ctx G X cX3_isSunSide 5 yX3_isSunSide.cls yX3_isSunSide.name (Option.some Jvm.ClassFile.FieldType.boolean) { frames := 1, cells := 0, slots := 0, locals := 21 }
abbrev CT_X3_isSunHeight (G : Gx) (l : Launch) (As : List PV) (h : PH) (PQ : Option PV → PH → Prop) : Prop := CT G l yX3_isSunHeight cX3_isSunHeight 2 (Option.some Jvm.ClassFile.FieldType.boolean) 1 21 0 0 As h PQ
abbrev CX_X3_isSunHeight (G : Gx) (X : Cx) : Prop := pw_Ctx G X cX3_isSunHeight 2 yX3_isSunHeight.cls yX3_isSunHeight.name (Option.some Jvm.ClassFile.FieldType.boolean) { frames := 1, cells := 0, slots := 0, locals := 21 }
abbrev CT_X3_isBurnt (G : Gx) (l : Launch) (As : List PV) (h : PH) (PQ : Option PV → PH → Prop) : Prop := CT G l yX3_isBurnt cX3_isBurnt 4 (Option.some Jvm.ClassFile.FieldType.boolean) 2 45 0 0 As h PQ
abbrev CX_X3_isBurnt (G : Gx) (X : Cx) : Prop := pw_Ctx G X cX3_isBurnt 4 yX3_isBurnt.cls yX3_isBurnt.name (Option.some Jvm.ClassFile.FieldType.boolean) { frames := 2, cells := 0, slots := 0, locals := 45 }
abbrev CT_X3_hasStorm (G : Gx) (l : Launch) (As : List PV) (h : PH) (PQ : Option PV → PH → Prop) : Prop := CT G l yX3_hasStorm cX3_hasStorm 1 (Option.some Jvm.ClassFile.FieldType.boolean) 0 0 0 0 As h PQ
abbrev CX_X3_hasStorm (G : Gx) (X : Cx) : Prop := pw_Ctx G X cX3_hasStorm 1 yX3_hasStorm.cls yX3_hasStorm.name (Option.some Jvm.ClassFile.FieldType.boolean) { frames := 0, cells := 0, slots := 0, locals := 0 }
abbrev CT_X3_isStormy (G : Gx) (l : Launch) (As : List PV) (h : PH) (PQ : Option PV → PH → Prop) : Prop := CT G l yX3_isStormy cX3_isStormy 2 (Option.some Jvm.ClassFile.FieldType.boolean) 1 22 0 0 As h PQ
abbrev CX_X3_isStormy (G : Gx) (X : Cx) : Prop := pw_Ctx G X cX3_isStormy 2 yX3_isStormy.cls yX3_isStormy.name (Option.some Jvm.ClassFile.FieldType.boolean) { frames := 1, cells := 0, slots := 0, locals := 22 }
abbrev CT_X3_copyFrom (G : Gx) (l : Launch) (As : List PV) (h : PH) (PQ : Option PV → PH → Prop) : Prop := CT G l yX3_copyFrom cX3_copyFrom 2 (Option.none : Option Jvm.ClassFile.FieldType) 1 24 0 0 As h PQ
abbrev CX_X3_copyFrom (G : Gx) (X : Cx) : Prop := pw_Ctx G X cX3_copyFrom 2 yX3_copyFrom.cls yX3_copyFrom.name (Option.none : Option Jvm.ClassFile.FieldType) { frames := 1, cells := 0, slots := 0, locals := 24 }
abbrev CT_X4_init (G : Gx) (l : Launch) (As : List PV) (h : PH) (PQ : Option PV → PH → Prop) : Prop := CT G l yX4_init cX4_init 1 (Option.none : Option Jvm.ClassFile.FieldType) 1 20 5 262 As h PQ
abbrev CX_X4_init (G : Gx) (X : Cx) : Prop := pw_Ctx G X cX4_init 1 yX4_init.cls yX4_init.name (Option.none : Option Jvm.ClassFile.FieldType) { frames := 1, cells := 5, slots := 262, locals := 20 }
abbrev CT_X4_clear (G : Gx) (l : Launch) (As : List PV) (h : PH) (PQ : Option PV → PH → Prop) : Prop := CT G l yX4_clear cX4_clear 3 (Option.none : Option Jvm.ClassFile.FieldType) 1 23 0 0 As h PQ
abbrev CX_X4_clear (G : Gx) (X : Cx) : Prop := pw_Ctx G X cX4_clear 3 yX4_clear.cls yX4_clear.name (Option.none : Option Jvm.ClassFile.FieldType) { frames := 1, cells := 0, slots := 0, locals := 23 }
abbrev CT_X4_startAt (G : Gx) (l : Launch) (As : List PV) (h : PH) (PQ : Option PV → PH → Prop) : Prop := CT G l yX4_startAt cX4_startAt 4 (Option.none : Option Jvm.ClassFile.FieldType) 0 0 0 0 As h PQ
abbrev CX_X4_startAt (G : Gx) (X : Cx) : Prop := pw_Ctx G X cX4_startAt 4 yX4_startAt.cls yX4_startAt.name (Option.none : Option Jvm.ClassFile.FieldType) { frames := 0, cells := 0, slots := 0, locals := 0 }
abbrev CT_X4_goTo (G : Gx) (l : Launch) (As : List PV) (h : PH) (PQ : Option PV → PH → Prop) : Prop := CT G l yX4_goTo cX4_goTo 3 (Option.none : Option Jvm.ClassFile.FieldType) 1 21 0 0 As h PQ
abbrev CX_X4_goTo (G : Gx) (X : Cx) : Prop := pw_Ctx G X cX4_goTo 3 yX4_goTo.cls yX4_goTo.name (Option.none : Option Jvm.ClassFile.FieldType) { frames := 1, cells := 0, slots := 0, locals := 21 }
abbrev CT_X4_see (G : Gx) (l : Launch) (As : List PV) (h : PH) (PQ : Option PV → PH → Prop) : Prop := CT G l yX4_see cX4_see 1 (Option.none : Option Jvm.ClassFile.FieldType) 0 0 0 0 As h PQ
abbrev CX_X4_see (G : Gx) (X : Cx) : Prop := pw_Ctx G X cX4_see 1 yX4_see.cls yX4_see.name (Option.none : Option Jvm.ClassFile.FieldType) { frames := 0, cells := 0, slots := 0, locals := 0 }
abbrev CT_X4_isBetterThan (G : Gx) (l : Launch) (As : List PV) (h : PH) (PQ : Option PV → PH → Prop) : Prop := CT G l yX4_isBetterThan cX4_isBetterThan 2 (Option.some Jvm.ClassFile.FieldType.boolean) 0 0 0 0 As h PQ
abbrev CX_X4_isBetterThan (G : Gx) (X : Cx) : Prop := pw_Ctx G X cX4_isBetterThan 2 yX4_isBetterThan.cls yX4_isBetterThan.name (Option.some Jvm.ClassFile.FieldType.boolean) { frames := 0, cells := 0, slots := 0, locals := 0 }
abbrev CT_X5_init (G : Gx) (l : Launch) (As : List PV) (h : PH) (PQ : Option PV → PH → Prop) : Prop := CT G l yX5_init cX5_init 2 (Option.none : Option Jvm.ClassFile.FieldType) 2 40 32 519 As h PQ
abbrev CX_X5_init (G : Gx) (X : Cx) : Prop := pw_Ctx G X cX5_init 2 yX5_init.cls yX5_init.name (Option.none : Option Jvm.ClassFile.FieldType) { frames := 2, cells := 32, slots := 519, locals := 40 }
abbrev CT_X5_copyFrom (G : Gx) (l : Launch) (As : List PV) (h : PH) (PQ : Option PV → PH → Prop) : Prop := CT G l yX5_copyFrom cX5_copyFrom 3 (Option.none : Option Jvm.ClassFile.FieldType) 2 61 0 0 As h PQ
abbrev CX_X5_copyFrom (G : Gx) (X : Cx) : Prop := pw_Ctx G X cX5_copyFrom 3 yX5_copyFrom.cls yX5_copyFrom.name (Option.none : Option Jvm.ClassFile.FieldType) { frames := 2, cells := 0, slots := 0, locals := 61 }
abbrev CT_X5_indexOf (G : Gx) (l : Launch) (As : List PV) (h : PH) (PQ : Option PV → PH → Prop) : Prop := CT G l yX5_indexOf cX5_indexOf 3 (Option.some Jvm.ClassFile.FieldType.int) 0 0 0 0 As h PQ
abbrev CX_X5_indexOf (G : Gx) (X : Cx) : Prop := pw_Ctx G X cX5_indexOf 3 yX5_indexOf.cls yX5_indexOf.name (Option.some Jvm.ClassFile.FieldType.int) { frames := 0, cells := 0, slots := 0, locals := 0 }
abbrev CT_X5_removeFlight (G : Gx) (l : Launch) (As : List PV) (h : PH) (PQ : Option PV → PH → Prop) : Prop := CT G l yX5_removeFlight cX5_removeFlight 4 (Option.none : Option Jvm.ClassFile.FieldType) 0 0 0 0 As h PQ
abbrev CX_X5_removeFlight (G : Gx) (X : Cx) : Prop := pw_Ctx G X cX5_removeFlight 4 yX5_removeFlight.cls yX5_removeFlight.name (Option.none : Option Jvm.ClassFile.FieldType) { frames := 0, cells := 0, slots := 0, locals := 0 }
abbrev CT_X5_nextOpen (G : Gx) (l : Launch) (As : List PV) (h : PH) (PQ : Option PV → PH → Prop) : Prop := CT G l yX5_nextOpen cX5_nextOpen 5 (Option.some Jvm.ClassFile.FieldType.int) 2 40 0 0 As h PQ
abbrev CX_X5_nextOpen (G : Gx) (X : Cx) : Prop := pw_Ctx G X cX5_nextOpen 5 yX5_nextOpen.cls yX5_nextOpen.name (Option.some Jvm.ClassFile.FieldType.int) { frames := 2, cells := 0, slots := 0, locals := 40 }
abbrev CT_X5_takenFlights (G : Gx) (l : Launch) (As : List PV) (h : PH) (PQ : Option PV → PH → Prop) : Prop := CT G l yX5_takenFlights cX5_takenFlights 3 (Option.some Jvm.ClassFile.FieldType.int) 1 20 0 0 As h PQ
abbrev CX_X5_takenFlights (G : Gx) (X : Cx) : Prop := pw_Ctx G X cX5_takenFlights 3 yX5_takenFlights.cls yX5_takenFlights.name (Option.some Jvm.ClassFile.FieldType.int) { frames := 1, cells := 0, slots := 0, locals := 20 }
abbrev CT_X5_allPoints (G : Gx) (l : Launch) (As : List PV) (h : PH) (PQ : Option PV → PH → Prop) : Prop := CT G l yX5_allPoints cX5_allPoints 3 (Option.some Jvm.ClassFile.FieldType.int) 0 0 0 0 As h PQ
abbrev CX_X5_allPoints (G : Gx) (X : Cx) : Prop := pw_Ctx G X cX5_allPoints 3 yX5_allPoints.cls yX5_allPoints.name (Option.some Jvm.ClassFile.FieldType.int) { frames := 0, cells := 0, slots := 0, locals := 0 }
abbrev CT_X5_allLooks (G : Gx) (l : Launch) (As : List PV) (h : PH) (PQ : Option PV → PH → Prop) : Prop := CT G l yX5_allLooks cX5_allLooks 3 (Option.some Jvm.ClassFile.FieldType.int) 0 0 0 0 As h PQ
abbrev CX_X5_allLooks (G : Gx) (X : Cx) : Prop := pw_Ctx G X cX5_allLooks 3 yX5_allLooks.cls yX5_allLooks.name (Option.some Jvm.ClassFile.FieldType.int) { frames := 0, cells := 0, slots := 0, locals := 0 }
abbrev CT_X5_unlikeLooks (G : Gx) (l : Launch) (As : List PV) (h : PH) (PQ : Option PV → PH → Prop) : Prop := CT G l yX5_unlikeLooks cX5_unlikeLooks 3 (Option.some Jvm.ClassFile.FieldType.int) 0 0 0 0 As h PQ
abbrev CX_X5_unlikeLooks (G : Gx) (X : Cx) : Prop := pw_Ctx G X cX5_unlikeLooks 3 yX5_unlikeLooks.cls yX5_unlikeLooks.name (Option.some Jvm.ClassFile.FieldType.int) { frames := 0, cells := 0, slots := 0, locals := 0 }
abbrev CT_X6_init (G : Gx) (l : Launch) (As : List PV) (h : PH) (PQ : Option PV → PH → Prop) : Prop := CT G l yX6_init cX6_init 2 (Option.none : Option Jvm.ClassFile.FieldType) 3 62 131 43092 As h PQ
abbrev CX_X6_init (G : Gx) (X : Cx) : Prop := pw_Ctx G X cX6_init 2 yX6_init.cls yX6_init.name (Option.none : Option Jvm.ClassFile.FieldType) { frames := 3, cells := 131, slots := 43092, locals := 62 }
abbrev CT_X6_pass (G : Gx) (l : Launch) (As : List PV) (h : PH) (PQ : Option PV → PH → Prop) : Prop := CT G l yX6_pass cX6_pass 3 (Option.some Jvm.ClassFile.FieldType.int) 1 22 0 0 As h PQ
abbrev CX_X6_pass (G : Gx) (X : Cx) : Prop := pw_Ctx G X cX6_pass 3 yX6_pass.cls yX6_pass.name (Option.some Jvm.ClassFile.FieldType.int) { frames := 1, cells := 0, slots := 0, locals := 22 }
abbrev CT_X6_point (G : Gx) (l : Launch) (As : List PV) (h : PH) (PQ : Option PV → PH → Prop) : Prop := CT G l yX6_point cX6_point 6 (Option.some Jvm.ClassFile.FieldType.int) 3 63 0 0 As h PQ
abbrev CX_X6_point (G : Gx) (X : Cx) : Prop := pw_Ctx G X cX6_point 6 yX6_point.cls yX6_point.name (Option.some Jvm.ClassFile.FieldType.int) { frames := 3, cells := 0, slots := 0, locals := 63 }
abbrev CT_X6_drop (G : Gx) (l : Launch) (As : List PV) (h : PH) (PQ : Option PV → PH → Prop) : Prop := CT G l yX6_drop cX6_drop 3 (Option.some Jvm.ClassFile.FieldType.int) 1 23 0 0 As h PQ
abbrev CX_X6_drop (G : Gx) (X : Cx) : Prop := pw_Ctx G X cX6_drop 3 yX6_drop.cls yX6_drop.name (Option.some Jvm.ClassFile.FieldType.int) { frames := 1, cells := 0, slots := 0, locals := 23 }
abbrev CT_X6_stand (G : Gx) (l : Launch) (As : List PV) (h : PH) (PQ : Option PV → PH → Prop) : Prop := CT G l yX6_stand cX6_stand 6 (Option.some Jvm.ClassFile.FieldType.int) 2 42 0 0 As h PQ
abbrev CX_X6_stand (G : Gx) (X : Cx) : Prop := pw_Ctx G X cX6_stand 6 yX6_stand.cls yX6_stand.name (Option.some Jvm.ClassFile.FieldType.int) { frames := 2, cells := 0, slots := 0, locals := 42 }
abbrev CT_X6_set (G : Gx) (l : Launch) (As : List PV) (h : PH) (PQ : Option PV → PH → Prop) : Prop := CT G l yX6_set cX6_set 6 (Option.some Jvm.ClassFile.FieldType.int) 2 43 0 0 As h PQ
abbrev CX_X6_set (G : Gx) (X : Cx) : Prop := pw_Ctx G X cX6_set 6 yX6_set.cls yX6_set.name (Option.some Jvm.ClassFile.FieldType.int) { frames := 2, cells := 0, slots := 0, locals := 43 }
abbrev CT_X6_sun (G : Gx) (l : Launch) (As : List PV) (h : PH) (PQ : Option PV → PH → Prop) : Prop := CT G l yX6_sun cX6_sun 5 (Option.some Jvm.ClassFile.FieldType.int) 2 42 0 0 As h PQ
abbrev CX_X6_sun (G : Gx) (X : Cx) : Prop := pw_Ctx G X cX6_sun 5 yX6_sun.cls yX6_sun.name (Option.some Jvm.ClassFile.FieldType.int) { frames := 2, cells := 0, slots := 0, locals := 42 }
abbrev CT_X6_storm (G : Gx) (l : Launch) (As : List PV) (h : PH) (PQ : Option PV → PH → Prop) : Prop := CT G l yX6_storm cX6_storm 3 (Option.some Jvm.ClassFile.FieldType.int) 2 42 0 0 As h PQ
abbrev CX_X6_storm (G : Gx) (X : Cx) : Prop := pw_Ctx G X cX6_storm 3 yX6_storm.cls yX6_storm.name (Option.some Jvm.ClassFile.FieldType.int) { frames := 2, cells := 0, slots := 0, locals := 42 }
abbrev CT_X6_key (G : Gx) (l : Launch) (As : List PV) (h : PH) (PQ : Option PV → PH → Prop) : Prop := CT G l yX6_key cX6_key 3 (Option.some Jvm.ClassFile.FieldType.int) 2 42 0 0 As h PQ
abbrev CX_X6_key (G : Gx) (X : Cx) : Prop := pw_Ctx G X cX6_key 3 yX6_key.cls yX6_key.name (Option.some Jvm.ClassFile.FieldType.int) { frames := 2, cells := 0, slots := 0, locals := 42 }
abbrev CT_X6_burnt (G : Gx) (l : Launch) (As : List PV) (h : PH) (PQ : Option PV → PH → Prop) : Prop := CT G l yX6_burnt cX6_burnt 4 (Option.some Jvm.ClassFile.FieldType.int) 3 68 0 0 As h PQ
abbrev CX_X6_burnt (G : Gx) (X : Cx) : Prop := pw_Ctx G X cX6_burnt 4 yX6_burnt.cls yX6_burnt.name (Option.some Jvm.ClassFile.FieldType.int) { frames := 3, cells := 0, slots := 0, locals := 68 }
abbrev CT_X6_told (G : Gx) (l : Launch) (As : List PV) (h : PH) (PQ : Option PV → PH → Prop) : Prop := CT G l yX6_told cX6_told 5 (Option.some Jvm.ClassFile.FieldType.int) 1 22 0 0 As h PQ
abbrev CX_X6_told (G : Gx) (X : Cx) : Prop := pw_Ctx G X cX6_told 5 yX6_told.cls yX6_told.name (Option.some Jvm.ClassFile.FieldType.int) { frames := 1, cells := 0, slots := 0, locals := 22 }
abbrev CT_X6_order (G : Gx) (l : Launch) (As : List PV) (h : PH) (PQ : Option PV → PH → Prop) : Prop := CT G l yX6_order cX6_order 2 (Option.some Jvm.ClassFile.FieldType.int) 1 22 0 0 As h PQ
abbrev CX_X6_order (G : Gx) (X : Cx) : Prop := pw_Ctx G X cX6_order 2 yX6_order.cls yX6_order.name (Option.some Jvm.ClassFile.FieldType.int) { frames := 1, cells := 0, slots := 0, locals := 22 }
abbrev CT_X6_dish (G : Gx) (l : Launch) (As : List PV) (h : PH) (PQ : Option PV → PH → Prop) : Prop := CT G l yX6_dish cX6_dish 4 (Option.some Jvm.ClassFile.FieldType.int) 2 42 0 0 As h PQ
abbrev CX_X6_dish (G : Gx) (X : Cx) : Prop := pw_Ctx G X cX6_dish 4 yX6_dish.cls yX6_dish.name (Option.some Jvm.ClassFile.FieldType.int) { frames := 2, cells := 0, slots := 0, locals := 42 }
abbrev CT_X6_way (G : Gx) (l : Launch) (As : List PV) (h : PH) (PQ : Option PV → PH → Prop) : Prop := CT G l yX6_way cX6_way 6 (Option.some Jvm.ClassFile.FieldType.int) 6 139 0 0 As h PQ
abbrev CX_X6_way (G : Gx) (X : Cx) : Prop := pw_Ctx G X cX6_way 6 yX6_way.cls yX6_way.name (Option.some Jvm.ClassFile.FieldType.int) { frames := 6, cells := 0, slots := 0, locals := 139 }
abbrev CT_X6_where (G : Gx) (l : Launch) (As : List PV) (h : PH) (PQ : Option PV → PH → Prop) : Prop := CT G l yX6_where cX6_where 7 (Option.some Jvm.ClassFile.FieldType.int) 6 139 0 0 As h PQ
abbrev CX_X6_where (G : Gx) (X : Cx) : Prop := pw_Ctx G X cX6_where 7 yX6_where.cls yX6_where.name (Option.some Jvm.ClassFile.FieldType.int) { frames := 6, cells := 0, slots := 0, locals := 139 }
abbrev CT_X6_offer (G : Gx) (l : Launch) (As : List PV) (h : PH) (PQ : Option PV → PH → Prop) : Prop := CT G l yX6_offer cX6_offer 5 (Option.some Jvm.ClassFile.FieldType.int) 7 163 0 0 As h PQ
abbrev CX_X6_offer (G : Gx) (X : Cx) : Prop := pw_Ctx G X cX6_offer 5 yX6_offer.cls yX6_offer.name (Option.some Jvm.ClassFile.FieldType.int) { frames := 7, cells := 0, slots := 0, locals := 163 }
abbrev CT_X6_share (G : Gx) (l : Launch) (As : List PV) (h : PH) (PQ : Option PV → PH → Prop) : Prop := CT G l yX6_share cX6_share 9 (Option.some Jvm.ClassFile.FieldType.int) 7 162 0 0 As h PQ
abbrev CX_X6_share (G : Gx) (X : Cx) : Prop := pw_Ctx G X cX6_share 9 yX6_share.cls yX6_share.name (Option.some Jvm.ClassFile.FieldType.int) { frames := 7, cells := 0, slots := 0, locals := 162 }
abbrev CT_X6_take (G : Gx) (l : Launch) (As : List PV) (h : PH) (PQ : Option PV → PH → Prop) : Prop := CT G l yX6_take cX6_take 6 (Option.some Jvm.ClassFile.FieldType.int) 6 139 0 0 As h PQ
abbrev CX_X6_take (G : Gx) (X : Cx) : Prop := pw_Ctx G X cX6_take 6 yX6_take.cls yX6_take.name (Option.some Jvm.ClassFile.FieldType.int) { frames := 6, cells := 0, slots := 0, locals := 139 }
abbrev CT_X6_round (G : Gx) (l : Launch) (As : List PV) (h : PH) (PQ : Option PV → PH → Prop) : Prop := CT G l yX6_round cX6_round 7 (Option.some Jvm.ClassFile.FieldType.int) 7 163 0 0 As h PQ
abbrev CX_X6_round (G : Gx) (X : Cx) : Prop := pw_Ctx G X cX6_round 7 yX6_round.cls yX6_round.name (Option.some Jvm.ClassFile.FieldType.int) { frames := 7, cells := 0, slots := 0, locals := 163 }
abbrev CT_X6_looked (G : Gx) (l : Launch) (As : List PV) (h : PH) (PQ : Option PV → PH → Prop) : Prop := CT G l yX6_looked cX6_looked 3 (Option.some Jvm.ClassFile.FieldType.int) 3 63 0 0 As h PQ
abbrev CX_X6_looked (G : Gx) (X : Cx) : Prop := pw_Ctx G X cX6_looked 3 yX6_looked.cls yX6_looked.name (Option.some Jvm.ClassFile.FieldType.int) { frames := 3, cells := 0, slots := 0, locals := 63 }
abbrev CT_X6_count (G : Gx) (l : Launch) (As : List PV) (h : PH) (PQ : Option PV → PH → Prop) : Prop := CT G l yX6_count cX6_count 3 (Option.some Jvm.ClassFile.FieldType.int) 2 42 0 0 As h PQ
abbrev CX_X6_count (G : Gx) (X : Cx) : Prop := pw_Ctx G X cX6_count 3 yX6_count.cls yX6_count.name (Option.some Jvm.ClassFile.FieldType.int) { frames := 2, cells := 0, slots := 0, locals := 42 }
abbrev CT_X6_image (G : Gx) (l : Launch) (As : List PV) (h : PH) (PQ : Option PV → PH → Prop) : Prop := CT G l yX6_image cX6_image 2 (Option.some Jvm.ClassFile.FieldType.int) 3 83 0 0 As h PQ
abbrev CX_X6_image (G : Gx) (X : Cx) : Prop := pw_Ctx G X cX6_image 2 yX6_image.cls yX6_image.name (Option.some Jvm.ClassFile.FieldType.int) { frames := 3, cells := 0, slots := 0, locals := 83 }
abbrev CT_X6_restore (G : Gx) (l : Launch) (As : List PV) (h : PH) (PQ : Option PV → PH → Prop) : Prop := CT G l yX6_restore cX6_restore 2 (Option.some Jvm.ClassFile.FieldType.int) 3 83 0 0 As h PQ
abbrev CX_X6_restore (G : Gx) (X : Cx) : Prop := pw_Ctx G X cX6_restore 2 yX6_restore.cls yX6_restore.name (Option.some Jvm.ClassFile.FieldType.int) { frames := 3, cells := 0, slots := 0, locals := 83 }
abbrev CT_X6_isIn (G : Gx) (l : Launch) (As : List PV) (h : PH) (PQ : Option PV → PH → Prop) : Prop := CT G l yX6_isIn cX6_isIn 3 (Option.some Jvm.ClassFile.FieldType.boolean) 0 0 0 0 As h PQ
abbrev CX_X6_isIn (G : Gx) (X : Cx) : Prop := pw_Ctx G X cX6_isIn 3 yX6_isIn.cls yX6_isIn.name (Option.some Jvm.ClassFile.FieldType.boolean) { frames := 0, cells := 0, slots := 0, locals := 0 }
abbrev CT_X6_isDish (G : Gx) (l : Launch) (As : List PV) (h : PH) (PQ : Option PV → PH → Prop) : Prop := CT G l yX6_isDish cX6_isDish 1 (Option.some Jvm.ClassFile.FieldType.boolean) 1 22 0 0 As h PQ
abbrev CX_X6_isDish (G : Gx) (X : Cx) : Prop := pw_Ctx G X cX6_isDish 1 yX6_isDish.cls yX6_isDish.name (Option.some Jvm.ClassFile.FieldType.boolean) { frames := 1, cells := 0, slots := 0, locals := 22 }
abbrev CT_X6_isSide (G : Gx) (l : Launch) (As : List PV) (h : PH) (PQ : Option PV → PH → Prop) : Prop := CT G l yX6_isSide cX6_isSide 1 (Option.some Jvm.ClassFile.FieldType.boolean) 1 22 0 0 As h PQ
abbrev CX_X6_isSide (G : Gx) (X : Cx) : Prop := pw_Ctx G X cX6_isSide 1 yX6_isSide.cls yX6_isSide.name (Option.some Jvm.ClassFile.FieldType.boolean) { frames := 1, cells := 0, slots := 0, locals := 22 }
abbrev CT_X6_isHeight (G : Gx) (l : Launch) (As : List PV) (h : PH) (PQ : Option PV → PH → Prop) : Prop := CT G l yX6_isHeight cX6_isHeight 1 (Option.some Jvm.ClassFile.FieldType.boolean) 1 22 0 0 As h PQ
abbrev CX_X6_isHeight (G : Gx) (X : Cx) : Prop := pw_Ctx G X cX6_isHeight 1 yX6_isHeight.cls yX6_isHeight.name (Option.some Jvm.ClassFile.FieldType.boolean) { frames := 1, cells := 0, slots := 0, locals := 22 }
abbrev CT_X6_isDirection (G : Gx) (l : Launch) (As : List PV) (h : PH) (PQ : Option PV → PH → Prop) : Prop := CT G l yX6_isDirection cX6_isDirection 2 (Option.some Jvm.ClassFile.FieldType.boolean) 2 42 0 0 As h PQ
abbrev CX_X6_isDirection (G : Gx) (X : Cx) : Prop := pw_Ctx G X cX6_isDirection 2 yX6_isDirection.cls yX6_isDirection.name (Option.some Jvm.ClassFile.FieldType.boolean) { frames := 2, cells := 0, slots := 0, locals := 42 }
abbrev CT_X6_isTick (G : Gx) (l : Launch) (As : List PV) (h : PH) (PQ : Option PV → PH → Prop) : Prop := CT G l yX6_isTick cX6_isTick 1 (Option.some Jvm.ClassFile.FieldType.boolean) 1 22 0 0 As h PQ
abbrev CX_X6_isTick (G : Gx) (X : Cx) : Prop := pw_Ctx G X cX6_isTick 1 yX6_isTick.cls yX6_isTick.name (Option.some Jvm.ClassFile.FieldType.boolean) { frames := 1, cells := 0, slots := 0, locals := 22 }
abbrev CT_X6_isSetting (G : Gx) (l : Launch) (As : List PV) (h : PH) (PQ : Option PV → PH → Prop) : Prop := CT G l yX6_isSetting cX6_isSetting 2 (Option.some Jvm.ClassFile.FieldType.boolean) 1 22 0 0 As h PQ
abbrev CX_X6_isSetting (G : Gx) (X : Cx) : Prop := pw_Ctx G X cX6_isSetting 2 yX6_isSetting.cls yX6_isSetting.name (Option.some Jvm.ClassFile.FieldType.boolean) { frames := 1, cells := 0, slots := 0, locals := 22 }
abbrev CT_X6_sideOf (G : Gx) (l : Launch) (As : List PV) (h : PH) (PQ : Option PV → PH → Prop) : Prop := CT G l yX6_sideOf cX6_sideOf 1 (Option.some Jvm.ClassFile.FieldType.int) 0 0 0 0 As h PQ
abbrev CX_X6_sideOf (G : Gx) (X : Cx) : Prop := pw_Ctx G X cX6_sideOf 1 yX6_sideOf.cls yX6_sideOf.name (Option.some Jvm.ClassFile.FieldType.int) { frames := 0, cells := 0, slots := 0, locals := 0 }
abbrev CT_X6_bestDish (G : Gx) (l : Launch) (As : List PV) (h : PH) (PQ : Option PV → PH → Prop) : Prop := CT G l yX6_bestDish cX6_bestDish 5 (Option.some Jvm.ClassFile.FieldType.int) 6 139 0 0 As h PQ
abbrev CX_X6_bestDish (G : Gx) (X : Cx) : Prop := pw_Ctx G X cX6_bestDish 5 yX6_bestDish.cls yX6_bestDish.name (Option.some Jvm.ClassFile.FieldType.int) { frames := 6, cells := 0, slots := 0, locals := 139 }
abbrev CT_X6_bestHandOver (G : Gx) (l : Launch) (As : List PV) (h : PH) (PQ : Option PV → PH → Prop) : Prop := CT G l yX6_bestHandOver cX6_bestHandOver 5 (Option.some Jvm.ClassFile.FieldType.int) 0 0 0 0 As h PQ
abbrev CX_X6_bestHandOver (G : Gx) (X : Cx) : Prop := pw_Ctx G X cX6_bestHandOver 5 yX6_bestHandOver.cls yX6_bestHandOver.name (Option.some Jvm.ClassFile.FieldType.int) { frames := 0, cells := 0, slots := 0, locals := 0 }
abbrev CT_X6_goAlong (G : Gx) (l : Launch) (As : List PV) (h : PH) (PQ : Option PV → PH → Prop) : Prop := CT G l yX6_goAlong cX6_goAlong 5 (Option.none : Option Jvm.ClassFile.FieldType) 1 23 0 0 As h PQ
abbrev CX_X6_goAlong (G : Gx) (X : Cx) : Prop := pw_Ctx G X cX6_goAlong 5 yX6_goAlong.cls yX6_goAlong.name (Option.none : Option Jvm.ClassFile.FieldType) { frames := 1, cells := 0, slots := 0, locals := 23 }
abbrev CT_X7_init (G : Gx) (l : Launch) (As : List PV) (h : PH) (PQ : Option PV → PH → Prop) : Prop := CT G l yX7_init cX7_init 2 (Option.none : Option Jvm.ClassFile.FieldType) 1 20 7 42598 As h PQ
abbrev CX_X7_init (G : Gx) (X : Cx) : Prop := pw_Ctx G X cX7_init 2 yX7_init.cls yX7_init.name (Option.none : Option Jvm.ClassFile.FieldType) { frames := 1, cells := 7, slots := 42598, locals := 20 }
abbrev CT_X7_in (G : Gx) (l : Launch) (As : List PV) (h : PH) (PQ : Option PV → PH → Prop) : Prop := CT G l yX7_in cX7_in 3 (Option.some Jvm.ClassFile.FieldType.boolean) 0 0 0 0 As h PQ
abbrev CX_X7_in (G : Gx) (X : Cx) : Prop := pw_Ctx G X cX7_in 3 yX7_in.cls yX7_in.name (Option.some Jvm.ClassFile.FieldType.boolean) { frames := 0, cells := 0, slots := 0, locals := 0 }
abbrev CT_X7_size (G : Gx) (l : Launch) (As : List PV) (h : PH) (PQ : Option PV → PH → Prop) : Prop := CT G l yX7_size cX7_size 1 (Option.some Jvm.ClassFile.FieldType.int) 0 0 0 0 As h PQ
abbrev CX_X7_size (G : Gx) (X : Cx) : Prop := pw_Ctx G X cX7_size 1 yX7_size.cls yX7_size.name (Option.some Jvm.ClassFile.FieldType.int) { frames := 0, cells := 0, slots := 0, locals := 0 }
abbrev CT_X7_isTick (G : Gx) (l : Launch) (As : List PV) (h : PH) (PQ : Option PV → PH → Prop) : Prop := CT G l yX7_isTick cX7_isTick 1 (Option.some Jvm.ClassFile.FieldType.boolean) 1 22 0 0 As h PQ
abbrev CX_X7_isTick (G : Gx) (X : Cx) : Prop := pw_Ctx G X cX7_isTick 1 yX7_isTick.cls yX7_isTick.name (Option.some Jvm.ClassFile.FieldType.boolean) { frames := 1, cells := 0, slots := 0, locals := 22 }
abbrev CT_X7_isDish (G : Gx) (l : Launch) (As : List PV) (h : PH) (PQ : Option PV → PH → Prop) : Prop := CT G l yX7_isDish cX7_isDish 1 (Option.some Jvm.ClassFile.FieldType.boolean) 1 22 0 0 As h PQ
abbrev CX_X7_isDish (G : Gx) (X : Cx) : Prop := pw_Ctx G X cX7_isDish 1 yX7_isDish.cls yX7_isDish.name (Option.some Jvm.ClassFile.FieldType.boolean) { frames := 1, cells := 0, slots := 0, locals := 22 }
abbrev CT_X7_isDirection (G : Gx) (l : Launch) (As : List PV) (h : PH) (PQ : Option PV → PH → Prop) : Prop := CT G l yX7_isDirection cX7_isDirection 2 (Option.some Jvm.ClassFile.FieldType.boolean) 1 22 0 0 As h PQ
abbrev CX_X7_isDirection (G : Gx) (X : Cx) : Prop := pw_Ctx G X cX7_isDirection 2 yX7_isDirection.cls yX7_isDirection.name (Option.some Jvm.ClassFile.FieldType.boolean) { frames := 1, cells := 0, slots := 0, locals := 22 }
abbrev CT_X7_passOf (G : Gx) (l : Launch) (As : List PV) (h : PH) (PQ : Option PV → PH → Prop) : Prop := CT G l yX7_passOf cX7_passOf 4 (Option.some Jvm.ClassFile.FieldType.int) 0 0 0 0 As h PQ
abbrev CX_X7_passOf (G : Gx) (X : Cx) : Prop := pw_Ctx G X cX7_passOf 4 yX7_passOf.cls yX7_passOf.name (Option.some Jvm.ClassFile.FieldType.int) { frames := 0, cells := 0, slots := 0, locals := 0 }
abbrev CT_X7_sideOf (G : Gx) (l : Launch) (As : List PV) (h : PH) (PQ : Option PV → PH → Prop) : Prop := CT G l yX7_sideOf cX7_sideOf 1 (Option.some Jvm.ClassFile.FieldType.int) 0 0 0 0 As h PQ
abbrev CX_X7_sideOf (G : Gx) (X : Cx) : Prop := pw_Ctx G X cX7_sideOf 1 yX7_sideOf.cls yX7_sideOf.name (Option.some Jvm.ClassFile.FieldType.int) { frames := 0, cells := 0, slots := 0, locals := 0 }
abbrev CT_X7_pass (G : Gx) (l : Launch) (As : List PV) (h : PH) (PQ : Option PV → PH → Prop) : Prop := CT G l yX7_pass cX7_pass 4 (Option.some Jvm.ClassFile.FieldType.int) 1 23 0 0 As h PQ
abbrev CX_X7_pass (G : Gx) (X : Cx) : Prop := pw_Ctx G X cX7_pass 4 yX7_pass.cls yX7_pass.name (Option.some Jvm.ClassFile.FieldType.int) { frames := 1, cells := 0, slots := 0, locals := 23 }
abbrev CT_X7_point (G : Gx) (l : Launch) (As : List PV) (h : PH) (PQ : Option PV → PH → Prop) : Prop := CT G l yX7_point cX7_point 6 (Option.some Jvm.ClassFile.FieldType.int) 2 43 0 0 As h PQ
abbrev CX_X7_point (G : Gx) (X : Cx) : Prop := pw_Ctx G X cX7_point 6 yX7_point.cls yX7_point.name (Option.some Jvm.ClassFile.FieldType.int) { frames := 2, cells := 0, slots := 0, locals := 43 }
abbrev CT_X7_drop (G : Gx) (l : Launch) (As : List PV) (h : PH) (PQ : Option PV → PH → Prop) : Prop := CT G l yX7_drop cX7_drop 5 (Option.some Jvm.ClassFile.FieldType.int) 1 23 0 0 As h PQ
abbrev CX_X7_drop (G : Gx) (X : Cx) : Prop := pw_Ctx G X cX7_drop 5 yX7_drop.cls yX7_drop.name (Option.some Jvm.ClassFile.FieldType.int) { frames := 1, cells := 0, slots := 0, locals := 23 }
abbrev CT_X7_stand (G : Gx) (l : Launch) (As : List PV) (h : PH) (PQ : Option PV → PH → Prop) : Prop := CT G l yX7_stand cX7_stand 5 (Option.some Jvm.ClassFile.FieldType.int) 2 42 0 0 As h PQ
abbrev CX_X7_stand (G : Gx) (X : Cx) : Prop := pw_Ctx G X cX7_stand 5 yX7_stand.cls yX7_stand.name (Option.some Jvm.ClassFile.FieldType.int) { frames := 2, cells := 0, slots := 0, locals := 42 }
abbrev CT_X7_set (G : Gx) (l : Launch) (As : List PV) (h : PH) (PQ : Option PV → PH → Prop) : Prop := CT G l yX7_set cX7_set 6 (Option.some Jvm.ClassFile.FieldType.int) 2 42 0 0 As h PQ
abbrev CX_X7_set (G : Gx) (X : Cx) : Prop := pw_Ctx G X cX7_set 6 yX7_set.cls yX7_set.name (Option.some Jvm.ClassFile.FieldType.int) { frames := 2, cells := 0, slots := 0, locals := 42 }
abbrev CT_X7_sun (G : Gx) (l : Launch) (As : List PV) (h : PH) (PQ : Option PV → PH → Prop) : Prop := CT G l yX7_sun cX7_sun 5 (Option.some Jvm.ClassFile.FieldType.int) 2 43 0 0 As h PQ
abbrev CX_X7_sun (G : Gx) (X : Cx) : Prop := pw_Ctx G X cX7_sun 5 yX7_sun.cls yX7_sun.name (Option.some Jvm.ClassFile.FieldType.int) { frames := 2, cells := 0, slots := 0, locals := 43 }
abbrev CT_X7_storm (G : Gx) (l : Launch) (As : List PV) (h : PH) (PQ : Option PV → PH → Prop) : Prop := CT G l yX7_storm cX7_storm 3 (Option.some Jvm.ClassFile.FieldType.int) 2 42 0 0 As h PQ
abbrev CX_X7_storm (G : Gx) (X : Cx) : Prop := pw_Ctx G X cX7_storm 3 yX7_storm.cls yX7_storm.name (Option.some Jvm.ClassFile.FieldType.int) { frames := 2, cells := 0, slots := 0, locals := 42 }
abbrev CT_X7_key (G : Gx) (l : Launch) (As : List PV) (h : PH) (PQ : Option PV → PH → Prop) : Prop := CT G l yX7_key cX7_key 3 (Option.some Jvm.ClassFile.FieldType.int) 1 22 0 0 As h PQ
abbrev CX_X7_key (G : Gx) (X : Cx) : Prop := pw_Ctx G X cX7_key 3 yX7_key.cls yX7_key.name (Option.some Jvm.ClassFile.FieldType.int) { frames := 1, cells := 0, slots := 0, locals := 22 }
abbrev CT_X7_isBurnt (G : Gx) (l : Launch) (As : List PV) (h : PH) (PQ : Option PV → PH → Prop) : Prop := CT G l yX7_isBurnt cX7_isBurnt 7 (Option.some Jvm.ClassFile.FieldType.boolean) 1 20 0 0 As h PQ
abbrev CX_X7_isBurnt (G : Gx) (X : Cx) : Prop := pw_Ctx G X cX7_isBurnt 7 yX7_isBurnt.cls yX7_isBurnt.name (Option.some Jvm.ClassFile.FieldType.boolean) { frames := 1, cells := 0, slots := 0, locals := 20 }
abbrev CT_X7_burnt (G : Gx) (l : Launch) (As : List PV) (h : PH) (PQ : Option PV → PH → Prop) : Prop := CT G l yX7_burnt cX7_burnt 4 (Option.some Jvm.ClassFile.FieldType.int) 2 46 0 0 As h PQ
abbrev CX_X7_burnt (G : Gx) (X : Cx) : Prop := pw_Ctx G X cX7_burnt 4 yX7_burnt.cls yX7_burnt.name (Option.some Jvm.ClassFile.FieldType.int) { frames := 2, cells := 0, slots := 0, locals := 46 }
abbrev CT_X7_told (G : Gx) (l : Launch) (As : List PV) (h : PH) (PQ : Option PV → PH → Prop) : Prop := CT G l yX7_told cX7_told 4 (Option.some Jvm.ClassFile.FieldType.int) 1 23 0 0 As h PQ
abbrev CX_X7_told (G : Gx) (X : Cx) : Prop := pw_Ctx G X cX7_told 4 yX7_told.cls yX7_told.name (Option.some Jvm.ClassFile.FieldType.int) { frames := 1, cells := 0, slots := 0, locals := 23 }
abbrev CT_X7_order (G : Gx) (l : Launch) (As : List PV) (h : PH) (PQ : Option PV → PH → Prop) : Prop := CT G l yX7_order cX7_order 2 (Option.some Jvm.ClassFile.FieldType.int) 1 22 0 0 As h PQ
abbrev CX_X7_order (G : Gx) (X : Cx) : Prop := pw_Ctx G X cX7_order 2 yX7_order.cls yX7_order.name (Option.some Jvm.ClassFile.FieldType.int) { frames := 1, cells := 0, slots := 0, locals := 22 }
abbrev CT_X7_dish (G : Gx) (l : Launch) (As : List PV) (h : PH) (PQ : Option PV → PH → Prop) : Prop := CT G l yX7_dish cX7_dish 3 (Option.some Jvm.ClassFile.FieldType.int) 2 42 0 0 As h PQ
abbrev CX_X7_dish (G : Gx) (X : Cx) : Prop := pw_Ctx G X cX7_dish 3 yX7_dish.cls yX7_dish.name (Option.some Jvm.ClassFile.FieldType.int) { frames := 2, cells := 0, slots := 0, locals := 42 }
abbrev CT_X7_placeOf (G : Gx) (l : Launch) (As : List PV) (h : PH) (PQ : Option PV → PH → Prop) : Prop := CT G l yX7_placeOf cX7_placeOf 2 (Option.some Jvm.ClassFile.FieldType.int) 0 0 0 0 As h PQ
abbrev CX_X7_placeOf (G : Gx) (X : Cx) : Prop := pw_Ctx G X cX7_placeOf 2 yX7_placeOf.cls yX7_placeOf.name (Option.some Jvm.ClassFile.FieldType.int) { frames := 0, cells := 0, slots := 0, locals := 0 }
abbrev CT_X7_sees (G : Gx) (l : Launch) (As : List PV) (h : PH) (PQ : Option PV → PH → Prop) : Prop := CT G l yX7_sees cX7_sees 6 (Option.some Jvm.ClassFile.FieldType.boolean) 2 46 0 0 As h PQ
abbrev CX_X7_sees (G : Gx) (X : Cx) : Prop := pw_Ctx G X cX7_sees 6 yX7_sees.cls yX7_sees.name (Option.some Jvm.ClassFile.FieldType.boolean) { frames := 2, cells := 0, slots := 0, locals := 46 }
abbrev CT_X7_mayStand (G : Gx) (l : Launch) (As : List PV) (h : PH) (PQ : Option PV → PH → Prop) : Prop := CT G l yX7_mayStand cX7_mayStand 5 (Option.some Jvm.ClassFile.FieldType.boolean) 2 46 0 0 As h PQ
abbrev CX_X7_mayStand (G : Gx) (X : Cx) : Prop := pw_Ctx G X cX7_mayStand 5 yX7_mayStand.cls yX7_mayStand.name (Option.some Jvm.ClassFile.FieldType.boolean) { frames := 2, cells := 0, slots := 0, locals := 46 }
abbrev CT_X7_lastTick (G : Gx) (l : Launch) (As : List PV) (h : PH) (PQ : Option PV → PH → Prop) : Prop := CT G l yX7_lastTick cX7_lastTick 1 (Option.some Jvm.ClassFile.FieldType.int) 0 0 0 0 As h PQ
abbrev CX_X7_lastTick (G : Gx) (X : Cx) : Prop := pw_Ctx G X cX7_lastTick 1 yX7_lastTick.cls yX7_lastTick.name (Option.some Jvm.ClassFile.FieldType.int) { frames := 0, cells := 0, slots := 0, locals := 0 }
abbrev CT_X7_goTo (G : Gx) (l : Launch) (As : List PV) (h : PH) (PQ : Option PV → PH → Prop) : Prop := CT G l yX7_goTo cX7_goTo 7 (Option.some Jvm.ClassFile.FieldType.int) 1 22 0 0 As h PQ
abbrev CX_X7_goTo (G : Gx) (X : Cx) : Prop := pw_Ctx G X cX7_goTo 7 yX7_goTo.cls yX7_goTo.name (Option.some Jvm.ClassFile.FieldType.int) { frames := 1, cells := 0, slots := 0, locals := 22 }
abbrev CT_X7_from (G : Gx) (l : Launch) (As : List PV) (h : PH) (PQ : Option PV → PH → Prop) : Prop := CT G l yX7_from cX7_from 10 (Option.some Jvm.ClassFile.FieldType.int) 3 71 0 0 As h PQ
abbrev CX_X7_from (G : Gx) (X : Cx) : Prop := pw_Ctx G X cX7_from 10 yX7_from.cls yX7_from.name (Option.some Jvm.ClassFile.FieldType.int) { frames := 3, cells := 0, slots := 0, locals := 71 }
abbrev CT_X7_lay (G : Gx) (l : Launch) (As : List PV) (h : PH) (PQ : Option PV → PH → Prop) : Prop := CT G l yX7_lay cX7_lay 10 (Option.some Jvm.ClassFile.FieldType.int) 4 100 0 0 As h PQ
abbrev CX_X7_lay (G : Gx) (X : Cx) : Prop := pw_Ctx G X cX7_lay 10 yX7_lay.cls yX7_lay.name (Option.some Jvm.ClassFile.FieldType.int) { frames := 4, cells := 0, slots := 0, locals := 100 }
abbrev CT_X7_seenOf (G : Gx) (l : Launch) (As : List PV) (h : PH) (PQ : Option PV → PH → Prop) : Prop := CT G l yX7_seenOf cX7_seenOf 1 (Option.some Jvm.ClassFile.FieldType.int) 0 0 0 0 As h PQ
abbrev CX_X7_seenOf (G : Gx) (X : Cx) : Prop := pw_Ctx G X cX7_seenOf 1 yX7_seenOf.cls yX7_seenOf.name (Option.some Jvm.ClassFile.FieldType.int) { frames := 0, cells := 0, slots := 0, locals := 0 }
abbrev CT_X7_stepsOf (G : Gx) (l : Launch) (As : List PV) (h : PH) (PQ : Option PV → PH → Prop) : Prop := CT G l yX7_stepsOf cX7_stepsOf 1 (Option.some Jvm.ClassFile.FieldType.int) 1 20 0 0 As h PQ
abbrev CX_X7_stepsOf (G : Gx) (X : Cx) : Prop := pw_Ctx G X cX7_stepsOf 1 yX7_stepsOf.cls yX7_stepsOf.name (Option.some Jvm.ClassFile.FieldType.int) { frames := 1, cells := 0, slots := 0, locals := 20 }
abbrev CT_X7_stepFrom (G : Gx) (l : Launch) (As : List PV) (h : PH) (PQ : Option PV → PH → Prop) : Prop := CT G l yX7_stepFrom cX7_stepFrom 9 (Option.none : Option Jvm.ClassFile.FieldType) 2 48 0 0 As h PQ
abbrev CX_X7_stepFrom (G : Gx) (X : Cx) : Prop := pw_Ctx G X cX7_stepFrom 9 yX7_stepFrom.cls yX7_stepFrom.name (Option.none : Option Jvm.ClassFile.FieldType) { frames := 2, cells := 0, slots := 0, locals := 48 }
abbrev CT_X7_walk (G : Gx) (l : Launch) (As : List PV) (h : PH) (PQ : Option PV → PH → Prop) : Prop := CT G l yX7_walk cX7_walk 4 (Option.none : Option Jvm.ClassFile.FieldType) 3 76 0 0 As h PQ
abbrev CX_X7_walk (G : Gx) (X : Cx) : Prop := pw_Ctx G X cX7_walk 4 yX7_walk.cls yX7_walk.name (Option.none : Option Jvm.ClassFile.FieldType) { frames := 3, cells := 0, slots := 0, locals := 76 }
abbrev CT_X7_layAll (G : Gx) (l : Launch) (As : List PV) (h : PH) (PQ : Option PV → PH → Prop) : Prop := CT G l yX7_layAll cX7_layAll 3 (Option.some Jvm.ClassFile.FieldType.int) 5 129 0 0 As h PQ
abbrev CX_X7_layAll (G : Gx) (X : Cx) : Prop := pw_Ctx G X cX7_layAll 3 yX7_layAll.cls yX7_layAll.name (Option.some Jvm.ClassFile.FieldType.int) { frames := 5, cells := 0, slots := 0, locals := 129 }
abbrev CT_X7_isOpen (G : Gx) (l : Launch) (As : List PV) (h : PH) (PQ : Option PV → PH → Prop) : Prop := CT G l yX7_isOpen cX7_isOpen 2 (Option.some Jvm.ClassFile.FieldType.boolean) 0 0 0 0 As h PQ
abbrev CX_X7_isOpen (G : Gx) (X : Cx) : Prop := pw_Ctx G X cX7_isOpen 2 yX7_isOpen.cls yX7_isOpen.name (Option.some Jvm.ClassFile.FieldType.boolean) { frames := 0, cells := 0, slots := 0, locals := 0 }
abbrev CT_X7_seenTick (G : Gx) (l : Launch) (As : List PV) (h : PH) (PQ : Option PV → PH → Prop) : Prop := CT G l yX7_seenTick cX7_seenTick 4 (Option.some Jvm.ClassFile.FieldType.int) 1 20 0 0 As h PQ
abbrev CX_X7_seenTick (G : Gx) (X : Cx) : Prop := pw_Ctx G X cX7_seenTick 4 yX7_seenTick.cls yX7_seenTick.name (Option.some Jvm.ClassFile.FieldType.int) { frames := 1, cells := 0, slots := 0, locals := 20 }
abbrev CT_X7_way (G : Gx) (l : Launch) (As : List PV) (h : PH) (PQ : Option PV → PH → Prop) : Prop := CT G l yX7_way cX7_way 6 (Option.some Jvm.ClassFile.FieldType.int) 6 151 0 0 As h PQ
abbrev CX_X7_way (G : Gx) (X : Cx) : Prop := pw_Ctx G X cX7_way 6 yX7_way.cls yX7_way.name (Option.some Jvm.ClassFile.FieldType.int) { frames := 6, cells := 0, slots := 0, locals := 151 }
abbrev CT_X7_where (G : Gx) (l : Launch) (As : List PV) (h : PH) (PQ : Option PV → PH → Prop) : Prop := CT G l yX7_where cX7_where 7 (Option.some Jvm.ClassFile.FieldType.int) 6 151 0 0 As h PQ
abbrev CX_X7_where (G : Gx) (X : Cx) : Prop := pw_Ctx G X cX7_where 7 yX7_where.cls yX7_where.name (Option.some Jvm.ClassFile.FieldType.int) { frames := 6, cells := 0, slots := 0, locals := 151 }
abbrev CT_X7_offerOf (G : Gx) (l : Launch) (As : List PV) (h : PH) (PQ : Option PV → PH → Prop) : Prop := CT G l yX7_offerOf cX7_offerOf 5 (Option.some Jvm.ClassFile.FieldType.int) 6 151 0 0 As h PQ
abbrev CX_X7_offerOf (G : Gx) (X : Cx) : Prop := pw_Ctx G X cX7_offerOf 5 yX7_offerOf.cls yX7_offerOf.name (Option.some Jvm.ClassFile.FieldType.int) { frames := 6, cells := 0, slots := 0, locals := 151 }
abbrev CT_X7_offer (G : Gx) (l : Launch) (As : List PV) (h : PH) (PQ : Option PV → PH → Prop) : Prop := CT G l yX7_offer cX7_offer 5 (Option.some Jvm.ClassFile.FieldType.int) 7 175 0 0 As h PQ
abbrev CX_X7_offer (G : Gx) (X : Cx) : Prop := pw_Ctx G X cX7_offer 5 yX7_offer.cls yX7_offer.name (Option.some Jvm.ClassFile.FieldType.int) { frames := 7, cells := 0, slots := 0, locals := 175 }
abbrev CT_X7_seenBy (G : Gx) (l : Launch) (As : List PV) (h : PH) (PQ : Option PV → PH → Prop) : Prop := CT G l yX7_seenBy cX7_seenBy 6 (Option.some Jvm.ClassFile.FieldType.int) 5 129 0 0 As h PQ
abbrev CX_X7_seenBy (G : Gx) (X : Cx) : Prop := pw_Ctx G X cX7_seenBy 6 yX7_seenBy.cls yX7_seenBy.name (Option.some Jvm.ClassFile.FieldType.int) { frames := 5, cells := 0, slots := 0, locals := 129 }
abbrev CT_X7_share (G : Gx) (l : Launch) (As : List PV) (h : PH) (PQ : Option PV → PH → Prop) : Prop := CT G l yX7_share cX7_share 10 (Option.some Jvm.ClassFile.FieldType.int) 6 154 0 0 As h PQ
abbrev CX_X7_share (G : Gx) (X : Cx) : Prop := pw_Ctx G X cX7_share 10 yX7_share.cls yX7_share.name (Option.some Jvm.ClassFile.FieldType.int) { frames := 6, cells := 0, slots := 0, locals := 154 }
abbrev CT_X7_takeBy (G : Gx) (l : Launch) (As : List PV) (h : PH) (PQ : Option PV → PH → Prop) : Prop := CT G l yX7_takeBy cX7_takeBy 5 (Option.some Jvm.ClassFile.FieldType.int) 6 151 0 0 As h PQ
abbrev CX_X7_takeBy (G : Gx) (X : Cx) : Prop := pw_Ctx G X cX7_takeBy 5 yX7_takeBy.cls yX7_takeBy.name (Option.some Jvm.ClassFile.FieldType.int) { frames := 6, cells := 0, slots := 0, locals := 151 }
abbrev CT_X7_take (G : Gx) (l : Launch) (As : List PV) (h : PH) (PQ : Option PV → PH → Prop) : Prop := CT G l yX7_take cX7_take 4 (Option.some Jvm.ClassFile.FieldType.int) 7 175 0 0 As h PQ
abbrev CX_X7_take (G : Gx) (X : Cx) : Prop := pw_Ctx G X cX7_take 4 yX7_take.cls yX7_take.name (Option.some Jvm.ClassFile.FieldType.int) { frames := 7, cells := 0, slots := 0, locals := 175 }
abbrev CT_X7_nextPass (G : Gx) (l : Launch) (As : List PV) (h : PH) (PQ : Option PV → PH → Prop) : Prop := CT G l yX7_nextPass cX7_nextPass 7 (Option.some Jvm.ClassFile.FieldType.int) 1 21 0 0 As h PQ
abbrev CX_X7_nextPass (G : Gx) (X : Cx) : Prop := pw_Ctx G X cX7_nextPass 7 yX7_nextPass.cls yX7_nextPass.name (Option.some Jvm.ClassFile.FieldType.int) { frames := 1, cells := 0, slots := 0, locals := 21 }
abbrev CT_X7_round (G : Gx) (l : Launch) (As : List PV) (h : PH) (PQ : Option PV → PH → Prop) : Prop := CT G l yX7_round cX7_round 4 (Option.some Jvm.ClassFile.FieldType.int) 7 175 0 0 As h PQ
abbrev CX_X7_round (G : Gx) (X : Cx) : Prop := pw_Ctx G X cX7_round 4 yX7_round.cls yX7_round.name (Option.some Jvm.ClassFile.FieldType.int) { frames := 7, cells := 0, slots := 0, locals := 175 }
abbrev CT_X7_looked (G : Gx) (l : Launch) (As : List PV) (h : PH) (PQ : Option PV → PH → Prop) : Prop := CT G l yX7_looked cX7_looked 3 (Option.some Jvm.ClassFile.FieldType.int) 2 43 0 0 As h PQ
abbrev CX_X7_looked (G : Gx) (X : Cx) : Prop := pw_Ctx G X cX7_looked 3 yX7_looked.cls yX7_looked.name (Option.some Jvm.ClassFile.FieldType.int) { frames := 2, cells := 0, slots := 0, locals := 43 }
abbrev CT_X7_takenOnes (G : Gx) (l : Launch) (As : List PV) (h : PH) (PQ : Option PV → PH → Prop) : Prop := CT G l yX7_takenOnes cX7_takenOnes 3 (Option.some Jvm.ClassFile.FieldType.int) 0 0 0 0 As h PQ
abbrev CX_X7_takenOnes (G : Gx) (X : Cx) : Prop := pw_Ctx G X cX7_takenOnes 3 yX7_takenOnes.cls yX7_takenOnes.name (Option.some Jvm.ClassFile.FieldType.int) { frames := 0, cells := 0, slots := 0, locals := 0 }
abbrev CT_X7_pointsOfAll (G : Gx) (l : Launch) (As : List PV) (h : PH) (PQ : Option PV → PH → Prop) : Prop := CT G l yX7_pointsOfAll cX7_pointsOfAll 3 (Option.some Jvm.ClassFile.FieldType.int) 0 0 0 0 As h PQ
abbrev CX_X7_pointsOfAll (G : Gx) (X : Cx) : Prop := pw_Ctx G X cX7_pointsOfAll 3 yX7_pointsOfAll.cls yX7_pointsOfAll.name (Option.some Jvm.ClassFile.FieldType.int) { frames := 0, cells := 0, slots := 0, locals := 0 }
abbrev CT_X7_looks (G : Gx) (l : Launch) (As : List PV) (h : PH) (PQ : Option PV → PH → Prop) : Prop := CT G l yX7_looks cX7_looks 4 (Option.some Jvm.ClassFile.FieldType.int) 0 0 0 0 As h PQ
abbrev CX_X7_looks (G : Gx) (X : Cx) : Prop := pw_Ctx G X cX7_looks 4 yX7_looks.cls yX7_looks.name (Option.some Jvm.ClassFile.FieldType.int) { frames := 0, cells := 0, slots := 0, locals := 0 }
abbrev CT_X7_count (G : Gx) (l : Launch) (As : List PV) (h : PH) (PQ : Option PV → PH → Prop) : Prop := CT G l yX7_count cX7_count 2 (Option.some Jvm.ClassFile.FieldType.int) 1 23 0 0 As h PQ
abbrev CX_X7_count (G : Gx) (X : Cx) : Prop := pw_Ctx G X cX7_count 2 yX7_count.cls yX7_count.name (Option.some Jvm.ClassFile.FieldType.int) { frames := 1, cells := 0, slots := 0, locals := 23 }
abbrev CT_X7_image (G : Gx) (l : Launch) (As : List PV) (h : PH) (PQ : Option PV → PH → Prop) : Prop := CT G l yX7_image cX7_image 3 (Option.some Jvm.ClassFile.FieldType.int) 1 22 0 0 As h PQ
abbrev CX_X7_image (G : Gx) (X : Cx) : Prop := pw_Ctx G X cX7_image 3 yX7_image.cls yX7_image.name (Option.some Jvm.ClassFile.FieldType.int) { frames := 1, cells := 0, slots := 0, locals := 22 }
abbrev CT_X7_restore (G : Gx) (l : Launch) (As : List PV) (h : PH) (PQ : Option PV → PH → Prop) : Prop := CT G l yX7_restore cX7_restore 3 (Option.some Jvm.ClassFile.FieldType.int) 1 22 0 0 As h PQ
abbrev CX_X7_restore (G : Gx) (X : Cx) : Prop := pw_Ctx G X cX7_restore 3 yX7_restore.cls yX7_restore.name (Option.some Jvm.ClassFile.FieldType.int) { frames := 1, cells := 0, slots := 0, locals := 22 }
abbrev CT_J9_abs_0f7a4 (G : Gx) (l : Launch) (As : List PV) (h : PH) (PQ : Option PV → PH → Prop) : Prop := CT G l yJ9_abs_0f7a4 cJ9_abs_0f7a4 1 (Option.some Jvm.ClassFile.FieldType.int) 0 0 0 0 As h PQ
abbrev CX_J9_abs_0f7a4 (G : Gx) (X : Cx) : Prop := pw_Ctx G X cJ9_abs_0f7a4 1 yJ9_abs_0f7a4.cls yJ9_abs_0f7a4.name (Option.some Jvm.ClassFile.FieldType.int) { frames := 0, cells := 0, slots := 0, locals := 0 }
abbrev CT_J9_max_7cf53 (G : Gx) (l : Launch) (As : List PV) (h : PH) (PQ : Option PV → PH → Prop) : Prop := CT G l yJ9_max_7cf53 cJ9_max_7cf53 2 (Option.some Jvm.ClassFile.FieldType.int) 0 0 0 0 As h PQ
abbrev CX_J9_max_7cf53 (G : Gx) (X : Cx) : Prop := pw_Ctx G X cJ9_max_7cf53 2 yJ9_max_7cf53.cls yJ9_max_7cf53.name (Option.some Jvm.ClassFile.FieldType.int) { frames := 0, cells := 0, slots := 0, locals := 0 }
abbrev CT_J9_min_7cf53 (G : Gx) (l : Launch) (As : List PV) (h : PH) (PQ : Option PV → PH → Prop) : Prop := CT G l yJ9_min_7cf53 cJ9_min_7cf53 2 (Option.some Jvm.ClassFile.FieldType.int) 0 0 0 0 As h PQ
abbrev CX_J9_min_7cf53 (G : Gx) (X : Cx) : Prop := pw_Ctx G X cJ9_min_7cf53 2 yJ9_min_7cf53.cls yJ9_min_7cf53.name (Option.some Jvm.ClassFile.FieldType.int) { frames := 0, cells := 0, slots := 0, locals := 0 }
abbrev CT_J7_fill_53178 (G : Gx) (l : Launch) (As : List PV) (h : PH) (PQ : Option PV → PH → Prop) : Prop := CT G l yJ7_fill_53178 cJ7_fill_53178 4 (Option.none : Option Jvm.ClassFile.FieldType) 0 0 0 0 As h PQ
abbrev CX_J7_fill_53178 (G : Gx) (X : Cx) : Prop := pw_Ctx G X cJ7_fill_53178 4 yJ7_fill_53178.cls yJ7_fill_53178.name (Option.none : Option Jvm.ClassFile.FieldType) { frames := 0, cells := 0, slots := 0, locals := 0 }
