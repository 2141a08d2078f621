/-! part 04: what a program decides of the tables: each link's word stands among the statement's words -/
def zx_G : List Cond := lw_tbl.filter goodWord
def zx_isN : Cond → Bool
  | .fieldLinkNest .. => true
  | .methodLinkNest .. => true
  | _ => false
def zx_nw : List Cond := lw_tbl.filter zx_isN
def zx_at (p : Nat) (w : Cond) : Bool := match lw_tbl[p]? with
  | some w' => decide (w' = w)
  | none => false
def zx_inG (p : Nat) (w : Cond) : Bool := zx_at p w && goodWord w
def zx_inN (p : Nat) (w : Cond) : Bool := zx_at p w && zx_isN w
theorem zx_at_mem {p : Nat} {w : Cond} (h : zx_at p w = true) : w ∈ lw_tbl := by
  unfold zx_at at h
  split at h
  · rename_i w' e
    have e2 : w' = w := by simpa using h
    subst e2
    exact List.mem_of_getElem? e
  · cases h
theorem zx_inG_mem {p : Nat} {w : Cond} (h : zx_inG p w = true) : w ∈ zx_G := by
  unfold zx_inG at h
  rw [Bool.and_eq_true] at h
  exact List.mem_filter.mpr ⟨zx_at_mem h.1, h.2⟩
theorem zx_inN_mem {p : Nat} {w : Cond} (h : zx_inN p w = true) : w ∈ zx_nw := by
  unfold zx_inN at h
  rw [Bool.and_eq_true] at h
  exact List.mem_filter.mpr ⟨zx_at_mem h.1, h.2⟩
def zx_o (o : Nat) : String := (zx_on[o]?).getD ""
def zx_host : String := "CarriedAsFarAsTheStile"
def zx_ckm (t : zx_MT) (q : Nat × Nat × Nat × Nat) : Bool :=
  (zx_inG q.2.1 (.initialized (zx_my t).cls) && (decide (zx_o (zx_mo t) = (zx_my t).cls) && (decide (zx_mo t < 14) && (decide (zx_mn t ≤ 20) && (decide ((zx_my t).cls ≠ "java/lang/invoke/MethodHandle") && (decide ((zx_my t).cls ≠ "java/lang/invoke/VarHandle") && (decide ((parseMethodDescriptor (zx_my t).desc).map (fun d => d.parameters.length) = some (zx_mp t)) &&
  (match zx_mk t with
    | 0 => zx_inG q.2.2.1 (.instanceMethod (zx_my t)) && (zx_inG q.2.2.2 (.selects (zx_my t).cls (zx_my t) (zx_my t)) && plainName (zx_my t).cls)
    | 1 => zx_inG q.2.2.1 (.static (zx_my t)) && plainName (zx_my t).cls
    | 2 => zx_inG q.2.2.1 (.instanceMethod (zx_my t)) && (decide ((zx_my t).name = "<init>") && (decide (zx_mr t = none) && plainName (zx_my t).cls))
    | 3 => zx_inG q.2.2.1 (.static Lib.Math.max.name) && (decide (zx_my t = Lib.Math.max.name) && zx_inG q.2.1 (.initialized "java/lang/Math"))
    | 4 => zx_inG q.2.2.1 (.static Lib.Math.min.name) && (decide (zx_my t = Lib.Math.min.name) && zx_inG q.2.1 (.initialized "java/lang/Math"))
    | _ => false))))))))
theorem zx_cdm {p : Nat} {y : MethodName} {b : ByteArray} {n : Nat} {r : Option FieldType} (h : lw_tbl[p]? = some (Cond.code y b n r)) : Cond.code y b n r ∈ zx_G := List.mem_filter.mpr ⟨List.mem_of_getElem? h, rfl⟩
set_option maxRecDepth 20000 in
theorem zx_k0 : (Cond.code yX0_init cX0_init 1 none) ∈ zx_G := zx_cdm (p := 317) rfl
set_option maxRecDepth 20000 in
theorem zx_k1 : (Cond.code yX0_forget cX0_forget 1 none) ∈ zx_G := zx_cdm (p := 932) rfl
set_option maxRecDepth 20000 in
theorem zx_k2 : (Cond.code yX0_run cX0_run 5 (some FieldType.int)) ∈ zx_G := zx_cdm (p := 936) rfl
set_option maxRecDepth 20000 in
theorem zx_k3 : (Cond.code yX0_kept cX0_kept 2 (some FieldType.int)) ∈ zx_G := zx_cdm (p := 957) rfl
set_option maxRecDepth 20000 in
theorem zx_k4 : (Cond.code yX0_from cX0_from 7 (some FieldType.int)) ∈ zx_G := zx_cdm (p := 941) rfl
set_option maxRecDepth 20000 in
theorem zx_k5 : (Cond.code yX0_runBody cX0_runBody 5 (some FieldType.int)) ∈ zx_G := zx_cdm (p := 949) rfl
set_option maxRecDepth 20000 in
theorem zx_k6 : (Cond.code yX1_init cX1_init 2 none) ∈ zx_G := zx_cdm (p := 219) rfl
set_option maxRecDepth 20000 in
theorem zx_k7 : (Cond.code yX1_begin cX1_begin 2 none) ∈ zx_G := zx_cdm (p := 797) rfl
set_option maxRecDepth 20000 in
theorem zx_k8 : (Cond.code yX1_goOn cX1_goOn 3 none) ∈ zx_G := zx_cdm (p := 803) rfl
set_option maxRecDepth 20000 in
theorem zx_k9 : (Cond.code yX1_step cX1_step 3 (some FieldType.boolean)) ∈ zx_G := zx_cdm (p := 807) rfl
set_option maxRecDepth 20000 in
theorem zx_k10 : (Cond.code yX1_choose cX1_choose 3 (some FieldType.int)) ∈ zx_G := zx_cdm (p := 812) rfl
set_option maxRecDepth 20000 in
theorem zx_k11 : (Cond.code yX1_whoseTurn cX1_whoseTurn 4 (some FieldType.int)) ∈ zx_G := zx_cdm (p := 817) rfl
set_option maxRecDepth 20000 in
theorem zx_k12 : (Cond.code yX1_freshest cX1_freshest 3 (some FieldType.int)) ∈ zx_G := zx_cdm (p := 822) rfl
set_option maxRecDepth 20000 in
theorem zx_k13 : (Cond.code yX2_init cX2_init 3 none) ∈ zx_G := zx_cdm (p := 243) rfl
set_option maxRecDepth 20000 in
theorem zx_k14 : (Cond.code yX2_look cX2_look 3 none) ∈ zx_G := zx_cdm (p := 760) rfl
set_option maxRecDepth 20000 in
theorem zx_k15 : (Cond.code yX2_deeper cX2_deeper 7 none) ∈ zx_G := zx_cdm (p := 770) rfl
set_option maxRecDepth 20000 in
theorem zx_k16 : (Cond.code yX2_isHopeless cX2_isHopeless 4 (some FieldType.boolean)) ∈ zx_G := zx_cdm (p := 774) rfl
set_option maxRecDepth 20000 in
theorem zx_k17 : (Cond.code yX2_offer cX2_offer 6 none) ∈ zx_G := zx_cdm (p := 782) rfl
set_option maxRecDepth 20000 in
theorem zx_k18 : (Cond.code yX3_init cX3_init 1 none) ∈ zx_G := zx_cdm (p := 339) rfl
set_option maxRecDepth 20000 in
theorem zx_k19 : (Cond.code yX3_holdsRow cX3_holdsRow 1 (some FieldType.boolean)) ∈ zx_G := zx_cdm (p := 416) rfl
set_option maxRecDepth 20000 in
theorem zx_k20 : (Cond.code yX3_hasElement cX3_hasElement 2 (some FieldType.boolean)) ∈ zx_G := zx_cdm (p := 420) rfl
set_option maxRecDepth 20000 in
theorem zx_k21 : (Cond.code yX3_hasElements cX3_hasElements 3 (some FieldType.boolean)) ∈ zx_G := zx_cdm (p := 436) rfl
set_option maxRecDepth 20000 in
theorem zx_k22 : (Cond.code yX3_makeRow cX3_makeRow 4 none) ∈ zx_G := zx_cdm (p := 404) rfl
set_option maxRecDepth 20000 in
theorem zx_k23 : (Cond.code yX3_put cX3_put 4 none) ∈ zx_G := zx_cdm (p := 424) rfl
set_option maxRecDepth 20000 in
theorem zx_k24 : (Cond.code yX3_number cX3_number 2 (some FieldType.int)) ∈ zx_G := zx_cdm (p := 561) rfl
set_option maxRecDepth 20000 in
theorem zx_k25 : (Cond.code yX4_init cX4_init 1 none) ∈ zx_G := zx_cdm (p := 282) rfl
set_option maxRecDepth 20000 in
theorem zx_k26 : (Cond.code yX4_read cX4_read 5 none) ∈ zx_G := zx_cdm (p := 547) rfl
set_option maxRecDepth 20000 in
theorem zx_k27 : (Cond.code yX4_readItem cX4_readItem 3 none) ∈ zx_G := zx_cdm (p := 565) rfl
set_option maxRecDepth 20000 in
theorem zx_k28 : (Cond.code yX4_hasRoomFor cX4_hasRoomFor 2 (some FieldType.boolean)) ∈ zx_G := zx_cdm (p := 644) rfl
set_option maxRecDepth 20000 in
theorem zx_k29 : (Cond.code yX4_tellFurlong cX4_tellFurlong 3 none) ∈ zx_G := zx_cdm (p := 648) rfl
set_option maxRecDepth 20000 in
theorem zx_k30 : (Cond.code yX4_tellPerson cX4_tellPerson 3 none) ∈ zx_G := zx_cdm (p := 665) rfl
set_option maxRecDepth 20000 in
theorem zx_k31 : (Cond.code yX4_tellTired cX4_tellTired 3 none) ∈ zx_G := zx_cdm (p := 670) rfl
set_option maxRecDepth 20000 in
theorem zx_k32 : (Cond.code yX4_tellBag cX4_tellBag 2 none) ∈ zx_G := zx_cdm (p := 674) rfl
set_option maxRecDepth 20000 in
theorem zx_k33 : (Cond.code yX4_tellAct cX4_tellAct 2 none) ∈ zx_G := zx_cdm (p := 678) rfl
set_option maxRecDepth 20000 in
theorem zx_k34 : (Cond.code yX4_tellAsked cX4_tellAsked 3 none) ∈ zx_G := zx_cdm (p := 729) rfl
set_option maxRecDepth 20000 in
theorem zx_k35 : (Cond.code yX4_readWord cX4_readWord 4 (some FieldType.int)) ∈ zx_G := zx_cdm (p := 569) rfl
set_option maxRecDepth 20000 in
theorem zx_k36 : (Cond.code yX4_wordBeginning cX4_wordBeginning 4 (some FieldType.int)) ∈ zx_G := zx_cdm (p := 573) rfl
set_option maxRecDepth 20000 in
theorem zx_k37 : (Cond.code yX4_beginsThere cX4_beginsThere 5 (some FieldType.boolean)) ∈ zx_G := zx_cdm (p := 592) rfl
set_option maxRecDepth 20000 in
theorem zx_k38 : (Cond.code yX4_spelling cX4_spelling 1 (some (FieldType.object "java/lang/String"))) ∈ zx_G := zx_cdm (p := 576) rfl
set_option maxRecDepth 20000 in
theorem zx_k39 : (Cond.code yX4_readSign cX4_readSign 2 (some FieldType.boolean)) ∈ zx_G := zx_cdm (p := 656) rfl
set_option maxRecDepth 20000 in
theorem zx_k40 : (Cond.code yX4_readNumber cX4_readNumber 5 (some FieldType.int)) ∈ zx_G := zx_cdm (p := 652) rfl
set_option maxRecDepth 20000 in
theorem zx_k41 : (Cond.code yX4_isDigitNext cX4_isDigitNext 1 (some FieldType.boolean)) ∈ zx_G := zx_cdm (p := 660) rfl
set_option maxRecDepth 20000 in
theorem zx_k42 : (Cond.code yX5_init cX5_init 2 none) ∈ zx_G := zx_cdm (p := 156) rfl
set_option maxRecDepth 20000 in
theorem zx_k43 : (Cond.code yX5_copyFrom cX5_copyFrom 2 none) ∈ zx_G := zx_cdm (p := 556) rfl
set_option maxRecDepth 20000 in
theorem zx_k44 : (Cond.code yX5_addPerson cX5_addPerson 3 (some FieldType.int)) ∈ zx_G := zx_cdm (p := 496) rfl
set_option maxRecDepth 20000 in
theorem zx_k45 : (Cond.code yX5_asked cX5_asked 2 (some FieldType.int)) ∈ zx_G := zx_cdm (p := 524) rfl
set_option maxRecDepth 20000 in
theorem zx_k46 : (Cond.code yX5_become cX5_become 3 none) ∈ zx_G := zx_cdm (p := 528) rfl
set_option maxRecDepth 20000 in
theorem zx_k47 : (Cond.code yX5_atEnd cX5_atEnd 1 (some FieldType.boolean)) ∈ zx_G := zx_cdm (p := 690) rfl
set_option maxRecDepth 20000 in
theorem zx_k48 : (Cond.code yX5_asleep cX5_asleep 1 (some FieldType.boolean)) ∈ zx_G := zx_cdm (p := 474) rfl
set_option maxRecDepth 20000 in
theorem zx_k49 : (Cond.code yX5_greatestTired cX5_greatestTired 3 (some FieldType.int)) ∈ zx_G := zx_cdm (p := 766) rfl
set_option maxRecDepth 20000 in
theorem zx_k50 : (Cond.code yX5_minutesThereAndBack cX5_minutesThereAndBack 1 (some FieldType.int)) ∈ zx_G := zx_cdm (p := 841) rfl
set_option maxRecDepth 20000 in
theorem zx_k51 : (Cond.code yX5_loadOnSlope cX5_loadOnSlope 5 (some FieldType.int)) ∈ zx_G := zx_cdm (p := 478) rfl
set_option maxRecDepth 20000 in
theorem zx_k52 : (Cond.code yX5_mayBe cX5_mayBe 2 (some FieldType.boolean)) ∈ zx_G := zx_cdm (p := 682) rfl
set_option maxRecDepth 20000 in
theorem zx_k53 : (Cond.code yX5_mayCarry cX5_mayCarry 4 (some FieldType.boolean)) ∈ zx_G := zx_cdm (p := 699) rfl
set_option maxRecDepth 20000 in
theorem zx_k54 : (Cond.code yX5_mayWalk cX5_mayWalk 1 (some FieldType.boolean)) ∈ zx_G := zx_cdm (p := 686) rfl
set_option maxRecDepth 20000 in
theorem zx_k55 : (Cond.code yX5_mayRest cX5_mayRest 1 (some FieldType.boolean)) ∈ zx_G := zx_cdm (p := 695) rfl
set_option maxRecDepth 20000 in
theorem zx_k56 : (Cond.code yX5_come cX5_come 2 none) ∈ zx_G := zx_cdm (p := 705) rfl
set_option maxRecDepth 20000 in
theorem zx_k57 : (Cond.code yX5_walk cX5_walk 1 none) ∈ zx_G := zx_cdm (p := 709) rfl
set_option maxRecDepth 20000 in
theorem zx_k58 : (Cond.code yX5_carry cX5_carry 3 none) ∈ zx_G := zx_cdm (p := 725) rfl
set_option maxRecDepth 20000 in
theorem zx_k59 : (Cond.code yX5_restOthers cX5_restOthers 4 none) ∈ zx_G := zx_cdm (p := 713) rfl
set_option maxRecDepth 20000 in
theorem zx_k60 : (Cond.code yX5_restAll cX5_restAll 2 none) ∈ zx_G := zx_cdm (p := 721) rfl
set_option maxRecDepth 20000 in
theorem zx_k61 : (Cond.code yX5_draw cX5_draw 2 (some FieldType.int)) ∈ zx_G := zx_cdm (p := 912) rfl
set_option maxRecDepth 20000 in
theorem zx_k62 : (Cond.code yX6_init cX6_init 1 none) ∈ zx_G := zx_cdm (p := 113) rfl
set_option maxRecDepth 20000 in
theorem zx_k63 : (Cond.code yX6_copyFrom cX6_copyFrom 2 none) ∈ zx_G := zx_cdm (p := 551) rfl
set_option maxRecDepth 20000 in
theorem zx_k64 : (Cond.code yX6_hasFurlong cX6_hasFurlong 2 (some FieldType.boolean)) ∈ zx_G := zx_cdm (p := 504) rfl
set_option maxRecDepth 20000 in
theorem zx_k65 : (Cond.code yX6_hasPerson cX6_hasPerson 2 (some FieldType.boolean)) ∈ zx_G := zx_cdm (p := 451) rfl
set_option maxRecDepth 20000 in
theorem zx_k66 : (Cond.code yX6_addFurlong cX6_addFurlong 3 (some FieldType.int)) ∈ zx_G := zx_cdm (p := 488) rfl
set_option maxRecDepth 20000 in
theorem zx_k67 : (Cond.code yX7_init cX7_init 2 none) ∈ zx_G := zx_cdm (p := 101) rfl
set_option maxRecDepth 20000 in
theorem zx_k68 : (Cond.code yX7_row cX7_row 4 (some FieldType.int)) ∈ zx_G := zx_cdm (p := 393) rfl
set_option maxRecDepth 20000 in
theorem zx_k69 : (Cond.code yX7_set cX7_set 6 (some FieldType.int)) ∈ zx_G := zx_cdm (p := 408) rfl
set_option maxRecDepth 20000 in
theorem zx_k70 : (Cond.code yX7_copy cX7_copy 9 (some FieldType.int)) ∈ zx_G := zx_cdm (p := 428) rfl
set_option maxRecDepth 20000 in
theorem zx_k71 : (Cond.code yX7_element cX7_element 3 (some FieldType.long)) ∈ zx_G := zx_cdm (p := 443) rfl
set_option maxRecDepth 20000 in
theorem zx_k72 : (Cond.code yX7_show cX7_show 3 (some FieldType.int)) ∈ zx_G := zx_cdm (p := 447) rfl
set_option maxRecDepth 20000 in
theorem zx_k73 : (Cond.code yX7_holds cX7_holds 2 (some FieldType.int)) ∈ zx_G := zx_cdm (p := 455) rfl
set_option maxRecDepth 20000 in
theorem zx_k74 : (Cond.code yX7_says cX7_says 4 (some FieldType.int)) ∈ zx_G := zx_cdm (p := 459) rfl
set_option maxRecDepth 20000 in
theorem zx_k75 : (Cond.code yX7_furlong cX7_furlong 3 (some FieldType.int)) ∈ zx_G := zx_cdm (p := 484) rfl
set_option maxRecDepth 20000 in
theorem zx_k76 : (Cond.code yX7_person cX7_person 3 (some FieldType.int)) ∈ zx_G := zx_cdm (p := 492) rfl
set_option maxRecDepth 20000 in
theorem zx_k77 : (Cond.code yX7_furlongOf cX7_furlongOf 3 (some FieldType.int)) ∈ zx_G := zx_cdm (p := 500) rfl
set_option maxRecDepth 20000 in
theorem zx_k78 : (Cond.code yX7_personOf cX7_personOf 3 (some FieldType.int)) ∈ zx_G := zx_cdm (p := 512) rfl
set_option maxRecDepth 20000 in
theorem zx_k79 : (Cond.code yX7_ask cX7_ask 4 (some FieldType.int)) ∈ zx_G := zx_cdm (p := 516) rfl
set_option maxRecDepth 20000 in
theorem zx_k80 : (Cond.code yX7_tire cX7_tire 4 (some FieldType.int)) ∈ zx_G := zx_cdm (p := 535) rfl
set_option maxRecDepth 20000 in
theorem zx_k81 : (Cond.code yX7_bag cX7_bag 3 (some FieldType.int)) ∈ zx_G := zx_cdm (p := 539) rfl
set_option maxRecDepth 20000 in
theorem zx_k82 : (Cond.code yX7_way cX7_way 3 (some FieldType.int)) ∈ zx_G := zx_cdm (p := 543) rfl
set_option maxRecDepth 20000 in
theorem zx_k83 : (Cond.code yX7_fault cX7_fault 1 (some FieldType.int)) ∈ zx_G := zx_cdm (p := 739) rfl
set_option maxRecDepth 20000 in
theorem zx_k84 : (Cond.code yX7_load cX7_load 3 (some FieldType.int)) ∈ zx_G := zx_cdm (p := 743) rfl
set_option maxRecDepth 20000 in
theorem zx_k85 : (Cond.code yX7_may cX7_may 2 (some FieldType.int)) ∈ zx_G := zx_cdm (p := 747) rfl
set_option maxRecDepth 20000 in
theorem zx_k86 : (Cond.code yX7_next cX7_next 3 (some FieldType.int)) ∈ zx_G := zx_cdm (p := 752) rfl
set_option maxRecDepth 20000 in
theorem zx_k87 : (Cond.code yX7_ahead cX7_ahead 3 (some FieldType.int)) ∈ zx_G := zx_cdm (p := 756) rfl
set_option maxRecDepth 20000 in
theorem zx_k88 : (Cond.code yX7_by cX7_by 4 (some FieldType.int)) ∈ zx_G := zx_cdm (p := 790) rfl
set_option maxRecDepth 20000 in
theorem zx_k89 : (Cond.code yX7_best cX7_best 7 (some FieldType.int)) ∈ zx_G := zx_cdm (p := 828) rfl
set_option maxRecDepth 20000 in
theorem zx_k90 : (Cond.code yX7_whose cX7_whose 5 (some FieldType.int)) ∈ zx_G := zx_cdm (p := 833) rfl
set_option maxRecDepth 20000 in
theorem zx_k91 : (Cond.code yX7_turn cX7_turn 5 (some FieldType.int)) ∈ zx_G := zx_cdm (p := 837) rfl
set_option maxRecDepth 20000 in
theorem zx_k92 : (Cond.code yX7_pays cX7_pays 4 (some FieldType.int)) ∈ zx_G := zx_cdm (p := 846) rfl
set_option maxRecDepth 20000 in
theorem zx_k93 : (Cond.code yX7_bagged cX7_bagged 6 (some FieldType.int)) ∈ zx_G := zx_cdm (p := 851) rfl
set_option maxRecDepth 20000 in
theorem zx_k94 : (Cond.code yX7_judge cX7_judge 4 (some FieldType.int)) ∈ zx_G := zx_cdm (p := 855) rfl
set_option maxRecDepth 20000 in
theorem zx_k95 : (Cond.code yX7_behind cX7_behind 5 (some FieldType.int)) ∈ zx_G := zx_cdm (p := 868) rfl
set_option maxRecDepth 20000 in
theorem zx_k96 : (Cond.code yX7_done cX7_done 4 (some FieldType.int)) ∈ zx_G := zx_cdm (p := 873) rfl
set_option maxRecDepth 20000 in
theorem zx_k97 : (Cond.code yX7_fits cX7_fits 5 (some FieldType.int)) ∈ zx_G := zx_cdm (p := 877) rfl
set_option maxRecDepth 20000 in
theorem zx_k98 : (Cond.code yX7_enough cX7_enough 1 (some FieldType.int)) ∈ zx_G := zx_cdm (p := 884) rfl
set_option maxRecDepth 20000 in
theorem zx_k99 : (Cond.code yX7_leastWorn cX7_leastWorn 2 (some FieldType.int)) ∈ zx_G := zx_cdm (p := 893) rfl
set_option maxRecDepth 20000 in
theorem zx_k100 : (Cond.code yX7_does cX7_does 2 (some FieldType.int)) ∈ zx_G := zx_cdm (p := 897) rfl
set_option maxRecDepth 20000 in
theorem zx_k101 : (Cond.code yX7_summer cX7_summer 5 (some FieldType.int)) ∈ zx_G := zx_cdm (p := 901) rfl
set_option maxRecDepth 20000 in
theorem zx_k102 : (Cond.code yX7_day cX7_day 3 (some FieldType.int)) ∈ zx_G := zx_cdm (p := 920) rfl
set_option maxRecDepth 20000 in
theorem zx_k103 : (Cond.code yX7_seed cX7_seed 3 (some FieldType.int)) ∈ zx_G := zx_cdm (p := 924) rfl
set_option maxRecDepth 20000 in
theorem zx_k104 : (Cond.code yX7_act cX7_act 4 (some FieldType.int)) ∈ zx_G := zx_cdm (p := 928) rfl
set_option maxRecDepth 20000 in
theorem zx_k105 : (Cond.code yX7_trace cX7_trace 2 (some FieldType.int)) ∈ zx_G := zx_cdm (p := 953) rfl
set_option maxRecDepth 20000 in
theorem zx_k106 : (Cond.code yX7_image cX7_image 1 (some FieldType.int)) ∈ zx_G := zx_cdm (p := 961) rfl
set_option maxRecDepth 20000 in
theorem zx_k107 : (Cond.code yX7_restore cX7_restore 5 (some FieldType.int)) ∈ zx_G := zx_cdm (p := 965) rfl
set_option maxRecDepth 20000 in
theorem zx_k108 : (Cond.code yX7_status cX7_status 2 (some FieldType.int)) ∈ zx_G := zx_cdm (p := 969) rfl
set_option maxRecDepth 20000 in
theorem zx_k109 : (Cond.code yX7_refuse cX7_refuse 2 (some FieldType.int)) ∈ zx_G := zx_cdm (p := 400) rfl
set_option maxRecDepth 20000 in
theorem zx_k110 : (Cond.code yX7_refuseFar cX7_refuseFar 2 (some FieldType.int)) ∈ zx_G := zx_cdm (p := 508) rfl
set_option maxRecDepth 20000 in
theorem zx_k111 : (Cond.code yX7_whyNoRow cX7_whyNoRow 2 (some FieldType.int)) ∈ zx_G := zx_cdm (p := 412) rfl
set_option maxRecDepth 20000 in
theorem zx_k112 : (Cond.code yX7_whyNoCopy cX7_whyNoCopy 5 (some FieldType.int)) ∈ zx_G := zx_cdm (p := 432) rfl
set_option maxRecDepth 20000 in
theorem zx_k113 : (Cond.code yX7_whyNoWalk cX7_whyNoWalk 4 (some FieldType.int)) ∈ zx_G := zx_cdm (p := 859) rfl
set_option maxRecDepth 20000 in
theorem zx_k114 : (Cond.code yX7_isShelf cX7_isShelf 1 (some FieldType.boolean)) ∈ zx_G := zx_cdm (p := 396) rfl
set_option maxRecDepth 20000 in
theorem zx_k115 : (Cond.code yX7_isKind cX7_isKind 1 (some FieldType.boolean)) ∈ zx_G := zx_cdm (p := 462) rfl
set_option maxRecDepth 20000 in
theorem zx_k116 : (Cond.code yX7_isRule cX7_isRule 1 (some FieldType.boolean)) ∈ zx_G := zx_cdm (p := 793) rfl
set_option maxRecDepth 20000 in
theorem zx_k117 : (Cond.code yX7_isUnder cX7_isUnder 4 (some FieldType.boolean)) ∈ zx_G := zx_cdm (p := 465) rfl
set_option maxRecDepth 20000 in
theorem zx_k118 : (Cond.code yX7_restOfKind cX7_restOfKind 1 (some FieldType.int)) ∈ zx_G := zx_cdm (p := 470) rfl
set_option maxRecDepth 20000 in
theorem zx_k119 : (Cond.code yX7_isBetter cX7_isBetter 4 (some FieldType.boolean)) ∈ zx_G := zx_cdm (p := 785) rfl
set_option maxRecDepth 20000 in
theorem zx_k120 : (Cond.code yX7_nthBit cX7_nthBit 4 (some FieldType.int)) ∈ zx_G := zx_cdm (p := 916) rfl
set_option maxRecDepth 20000 in
theorem zx_k121 : (Cond.code yX7_tryWalk cX7_tryWalk 5 (some FieldType.int)) ∈ zx_G := zx_cdm (p := 863) rfl
set_option maxRecDepth 20000 in
theorem zx_k122 : (Cond.code yX7_areSoTired cX7_areSoTired 3 (some FieldType.boolean)) ∈ zx_G := zx_cdm (p := 880) rfl
set_option maxRecDepth 20000 in
theorem zx_k123 : (Cond.code yX7_leastToTheEnd cX7_leastToTheEnd 4 (some FieldType.int)) ∈ zx_G := zx_cdm (p := 888) rfl
set_option maxRecDepth 20000 in
theorem zx_k124 : (Cond.code yX8_init cX8_init 1 none) ∈ zx_G := zx_cdm (p := 974) rfl
set_option maxRecDepth 20000 in
theorem zx_k125 : (Cond.code yX8_no cX8_no 2 (some FieldType.int)) ∈ zx_G := zx_cdm (p := 1147) rfl
set_option maxRecDepth 20000 in
theorem zx_k126 : (Cond.code yX8_noTen cX8_noTen 2 (some FieldType.int)) ∈ zx_G := zx_cdm (p := 1211) rfl
set_option maxRecDepth 20000 in
theorem zx_k127 : (Cond.code yX8_isShelf cX8_isShelf 2 (some FieldType.boolean)) ∈ zx_G := zx_cdm (p := 1143) rfl
set_option maxRecDepth 20000 in
theorem zx_k128 : (Cond.code yX8_isPerson cX8_isPerson 2 (some FieldType.boolean)) ∈ zx_G := zx_cdm (p := 1167) rfl
set_option maxRecDepth 20000 in
theorem zx_k129 : (Cond.code yX8_isFurlong cX8_isFurlong 2 (some FieldType.boolean)) ∈ zx_G := zx_cdm (p := 1207) rfl
set_option maxRecDepth 20000 in
theorem zx_k130 : (Cond.code yX8_row cX8_row 5 (some FieldType.int)) ∈ zx_G := zx_cdm (p := 1139) rfl
set_option maxRecDepth 20000 in
theorem zx_k131 : (Cond.code yX8_set cX8_set 5 (some FieldType.int)) ∈ zx_G := zx_cdm (p := 1151) rfl
set_option maxRecDepth 20000 in
theorem zx_k132 : (Cond.code yX8_copy cX8_copy 7 (some FieldType.int)) ∈ zx_G := zx_cdm (p := 1155) rfl
set_option maxRecDepth 20000 in
theorem zx_k133 : (Cond.code yX8_element cX8_element 3 (some FieldType.long)) ∈ zx_G := zx_cdm (p := 1159) rfl
set_option maxRecDepth 20000 in
theorem zx_k134 : (Cond.code yX8_show cX8_show 3 (some FieldType.int)) ∈ zx_G := zx_cdm (p := 1163) rfl
set_option maxRecDepth 20000 in
theorem zx_k135 : (Cond.code yX8_holds cX8_holds 2 (some FieldType.int)) ∈ zx_G := zx_cdm (p := 1171) rfl
set_option maxRecDepth 20000 in
theorem zx_k136 : (Cond.code yX8_says cX8_says 6 (some FieldType.int)) ∈ zx_G := zx_cdm (p := 1175) rfl
set_option maxRecDepth 20000 in
theorem zx_k137 : (Cond.code yX8_wanted cX8_wanted 2 (some FieldType.int)) ∈ zx_G := zx_cdm (p := 1251) rfl
set_option maxRecDepth 20000 in
theorem zx_k138 : (Cond.code yX8_intAt cX8_intAt 3 (some FieldType.int)) ∈ zx_G := zx_cdm (p := 1404) rfl
set_option maxRecDepth 20000 in
theorem zx_k139 : (Cond.code yX8_bars cX8_bars 4 (some FieldType.int)) ∈ zx_G := zx_cdm (p := 1396) rfl
set_option maxRecDepth 20000 in
theorem zx_k140 : (Cond.code yX8_addsFurlong cX8_addsFurlong 3 (some FieldType.int)) ∈ zx_G := zx_cdm (p := 1191) rfl
set_option maxRecDepth 20000 in
theorem zx_k141 : (Cond.code yX8_addsPerson cX8_addsPerson 3 (some FieldType.int)) ∈ zx_G := zx_cdm (p := 1199) rfl
set_option maxRecDepth 20000 in
theorem zx_k142 : (Cond.code yX8_furlong cX8_furlong 3 (some FieldType.int)) ∈ zx_G := zx_cdm (p := 1187) rfl
set_option maxRecDepth 20000 in
theorem zx_k143 : (Cond.code yX8_person cX8_person 3 (some FieldType.int)) ∈ zx_G := zx_cdm (p := 1195) rfl
set_option maxRecDepth 20000 in
theorem zx_k144 : (Cond.code yX8_furlongOf cX8_furlongOf 3 (some FieldType.int)) ∈ zx_G := zx_cdm (p := 1203) rfl
set_option maxRecDepth 20000 in
theorem zx_k145 : (Cond.code yX8_personOf cX8_personOf 3 (some FieldType.int)) ∈ zx_G := zx_cdm (p := 1215) rfl
set_option maxRecDepth 20000 in
theorem zx_k146 : (Cond.code yX8_isAsked cX8_isAsked 3 (some FieldType.boolean)) ∈ zx_G := zx_cdm (p := 1223) rfl
set_option maxRecDepth 20000 in
theorem zx_k147 : (Cond.code yX8_told cX8_told 2 (some FieldType.int)) ∈ zx_G := zx_cdm (p := 1231) rfl
set_option maxRecDepth 20000 in
theorem zx_k148 : (Cond.code yX8_tells cX8_tells 3 none) ∈ zx_G := zx_cdm (p := 1235) rfl
set_option maxRecDepth 20000 in
theorem zx_k149 : (Cond.code yX8_asks cX8_asks 4 (some FieldType.int)) ∈ zx_G := zx_cdm (p := 1227) rfl
set_option maxRecDepth 20000 in
theorem zx_k150 : (Cond.code yX8_ask cX8_ask 3 (some FieldType.int)) ∈ zx_G := zx_cdm (p := 1219) rfl
set_option maxRecDepth 20000 in
theorem zx_k151 : (Cond.code yX8_tire cX8_tire 4 (some FieldType.int)) ∈ zx_G := zx_cdm (p := 1239) rfl
set_option maxRecDepth 20000 in
theorem zx_k152 : (Cond.code yX8_bag cX8_bag 3 (some FieldType.int)) ∈ zx_G := zx_cdm (p := 1243) rfl
set_option maxRecDepth 20000 in
theorem zx_k153 : (Cond.code yX8_wrong cX8_wrong 2 (some FieldType.boolean)) ∈ zx_G := zx_cdm (p := 1271) rfl
set_option maxRecDepth 20000 in
theorem zx_k154 : (Cond.code yX8_stands cX8_stands 4 (some FieldType.boolean)) ∈ zx_G := zx_cdm (p := 1267) rfl
set_option maxRecDepth 20000 in
theorem zx_k155 : (Cond.code yX8_word cX8_word 6 (some FieldType.int)) ∈ zx_G := zx_cdm (p := 1275) rfl
set_option maxRecDepth 20000 in
theorem zx_k156 : (Cond.code yX8_isDigit cX8_isDigit 1 (some FieldType.boolean)) ∈ zx_G := zx_cdm (p := 1283) rfl
set_option maxRecDepth 20000 in
theorem zx_k157 : (Cond.code yX8_reads cX8_reads 2 (some FieldType.boolean)) ∈ zx_G := zx_cdm (p := 1279) rfl
set_option maxRecDepth 20000 in
theorem zx_k158 : (Cond.code yX8_isSo cX8_isSo 3 (some FieldType.boolean)) ∈ zx_G := zx_cdm (p := 1287) rfl
set_option maxRecDepth 20000 in
theorem zx_k159 : (Cond.code yX8_item cX8_item 4 (some FieldType.boolean)) ∈ zx_G := zx_cdm (p := 1263) rfl
set_option maxRecDepth 20000 in
theorem zx_k160 : (Cond.code yX8_carries cX8_carries 7 (some FieldType.int)) ∈ zx_G := zx_cdm (p := 1259) rfl
set_option maxRecDepth 20000 in
theorem zx_k161 : (Cond.code yX8_all cX8_all 6 none) ∈ zx_G := zx_cdm (p := 1255) rfl
set_option maxRecDepth 20000 in
theorem zx_k162 : (Cond.code yX8_way cX8_way 5 (some FieldType.int)) ∈ zx_G := zx_cdm (p := 1247) rfl
set_option maxRecDepth 20000 in
theorem zx_k163 : (Cond.code yX8_fault cX8_fault 1 (some FieldType.int)) ∈ zx_G := zx_cdm (p := 1307) rfl
set_option maxRecDepth 20000 in
theorem zx_k164 : (Cond.code yX8_isAsleep cX8_isAsleep 1 (some FieldType.boolean)) ∈ zx_G := zx_cdm (p := 1179) rfl
set_option maxRecDepth 20000 in
theorem zx_k165 : (Cond.code yX8_loadOf cX8_loadOf 4 (some FieldType.int)) ∈ zx_G := zx_cdm (p := 1183) rfl
set_option maxRecDepth 20000 in
theorem zx_k166 : (Cond.code yX8_mayCarry cX8_mayCarry 3 (some FieldType.boolean)) ∈ zx_G := zx_cdm (p := 1295) rfl
set_option maxRecDepth 20000 in
theorem zx_k167 : (Cond.code yX8_mayBe cX8_mayBe 2 (some FieldType.boolean)) ∈ zx_G := zx_cdm (p := 1291) rfl
set_option maxRecDepth 20000 in
theorem zx_k168 : (Cond.code yX8_rests cX8_rests 3 none) ∈ zx_G := zx_cdm (p := 1303) rfl
set_option maxRecDepth 20000 in
theorem zx_k169 : (Cond.code yX8_acts cX8_acts 5 none) ∈ zx_G := zx_cdm (p := 1299) rfl
set_option maxRecDepth 20000 in
theorem zx_k170 : (Cond.code yX8_greatest cX8_greatest 3 (some FieldType.int)) ∈ zx_G := zx_cdm (p := 1327) rfl
set_option maxRecDepth 20000 in
theorem zx_k171 : (Cond.code yX8_load cX8_load 3 (some FieldType.int)) ∈ zx_G := zx_cdm (p := 1311) rfl
set_option maxRecDepth 20000 in
theorem zx_k172 : (Cond.code yX8_may cX8_may 2 (some FieldType.int)) ∈ zx_G := zx_cdm (p := 1315) rfl
set_option maxRecDepth 20000 in
theorem zx_k173 : (Cond.code yX8_next cX8_next 3 (some FieldType.int)) ∈ zx_G := zx_cdm (p := 1319) rfl
set_option maxRecDepth 20000 in
theorem zx_k174 : (Cond.code yX8_looks cX8_looks 7 none) ∈ zx_G := zx_cdm (p := 1331) rfl
set_option maxRecDepth 20000 in
theorem zx_k175 : (Cond.code yX8_ahead cX8_ahead 5 (some FieldType.int)) ∈ zx_G := zx_cdm (p := 1323) rfl
set_option maxRecDepth 20000 in
theorem zx_k176 : (Cond.code yX8_freshest cX8_freshest 3 (some FieldType.int)) ∈ zx_G := zx_cdm (p := 1360) rfl
set_option maxRecDepth 20000 in
theorem zx_k177 : (Cond.code yX8_ruled cX8_ruled 4 (some FieldType.int)) ∈ zx_G := zx_cdm (p := 1356) rfl
set_option maxRecDepth 20000 in
theorem zx_k178 : (Cond.code yX8_begins cX8_begins 1 none) ∈ zx_G := zx_cdm (p := 1348) rfl
set_option maxRecDepth 20000 in
theorem zx_k179 : (Cond.code yX8_goes cX8_goes 4 (some FieldType.boolean)) ∈ zx_G := zx_cdm (p := 1352) rfl
set_option maxRecDepth 20000 in
theorem zx_k180 : (Cond.code yX8_isRule cX8_isRule 2 (some FieldType.boolean)) ∈ zx_G := zx_cdm (p := 1340) rfl
set_option maxRecDepth 20000 in
theorem zx_k181 : (Cond.code yX8_leads cX8_leads 3 none) ∈ zx_G := zx_cdm (p := 1344) rfl
set_option maxRecDepth 20000 in
theorem zx_k182 : (Cond.code yX8_takesBack cX8_takesBack 1 none) ∈ zx_G := zx_cdm (p := 1364) rfl
set_option maxRecDepth 20000 in
theorem zx_k183 : (Cond.code yX8_by cX8_by 4 (some FieldType.int)) ∈ zx_G := zx_cdm (p := 1336) rfl
set_option maxRecDepth 20000 in
theorem zx_k184 : (Cond.code yX8_best cX8_best 7 (some FieldType.int)) ∈ zx_G := zx_cdm (p := 1368) rfl
set_option maxRecDepth 20000 in
theorem zx_k185 : (Cond.code yX8_whose cX8_whose 4 (some FieldType.int)) ∈ zx_G := zx_cdm (p := 1372) rfl
set_option maxRecDepth 20000 in
theorem zx_k186 : (Cond.code yX8_turn cX8_turn 6 (some FieldType.int)) ∈ zx_G := zx_cdm (p := 1376) rfl
set_option maxRecDepth 20000 in
theorem zx_k187 : (Cond.code yX8_pays cX8_pays 6 (some FieldType.int)) ∈ zx_G := zx_cdm (p := 1380) rfl
set_option maxRecDepth 20000 in
theorem zx_k188 : (Cond.code yX8_bagged cX8_bagged 7 (some FieldType.int)) ∈ zx_G := zx_cdm (p := 1384) rfl
set_option maxRecDepth 20000 in
theorem zx_k189 : (Cond.code yX8_wrongIn cX8_wrongIn 5 (some FieldType.int)) ∈ zx_G := zx_cdm (p := 1400) rfl
set_option maxRecDepth 20000 in
theorem zx_k190 : (Cond.code yX8_barsOf cX8_barsOf 4 (some FieldType.int)) ∈ zx_G := zx_cdm (p := 1392) rfl
set_option maxRecDepth 20000 in
theorem zx_k191 : (Cond.code yX8_judge cX8_judge 5 (some FieldType.int)) ∈ zx_G := zx_cdm (p := 1388) rfl
set_option maxRecDepth 20000 in
theorem zx_k192 : (Cond.code yX8_behind cX8_behind 7 (some FieldType.int)) ∈ zx_G := zx_cdm (p := 1408) rfl
set_option maxRecDepth 20000 in
theorem zx_k193 : (Cond.code yX8_done cX8_done 4 (some FieldType.int)) ∈ zx_G := zx_cdm (p := 1412) rfl
set_option maxRecDepth 20000 in
theorem zx_k194 : (Cond.code yX8_fits cX8_fits 7 (some FieldType.int)) ∈ zx_G := zx_cdm (p := 1416) rfl
set_option maxRecDepth 20000 in
theorem zx_k195 : (Cond.code yX8_enough cX8_enough 4 (some FieldType.int)) ∈ zx_G := zx_cdm (p := 1420) rfl
set_option maxRecDepth 20000 in
theorem zx_k196 : (Cond.code yX8_leastWorn cX8_leastWorn 5 (some FieldType.int)) ∈ zx_G := zx_cdm (p := 1424) rfl
set_option maxRecDepth 20000 in
theorem zx_k197 : (Cond.code yX8_does cX8_does 2 (some FieldType.int)) ∈ zx_G := zx_cdm (p := 1428) rfl
set_option maxRecDepth 20000 in
theorem zx_k198 : (Cond.code yX8_draw cX8_draw 2 (some FieldType.int)) ∈ zx_G := zx_cdm (p := 1436) rfl
set_option maxRecDepth 20000 in
theorem zx_k199 : (Cond.code yX8_summer cX8_summer 8 (some FieldType.int)) ∈ zx_G := zx_cdm (p := 1432) rfl
set_option maxRecDepth 20000 in
theorem zx_k200 : (Cond.code yX8_day cX8_day 3 (some FieldType.int)) ∈ zx_G := zx_cdm (p := 1441) rfl
set_option maxRecDepth 20000 in
theorem zx_k201 : (Cond.code yX8_seed cX8_seed 3 (some FieldType.int)) ∈ zx_G := zx_cdm (p := 1445) rfl
set_option maxRecDepth 20000 in
theorem zx_k202 : (Cond.code yX8_body cX8_body 2 none) ∈ zx_G := zx_cdm (p := 1457) rfl
set_option maxRecDepth 20000 in
theorem zx_k203 : (Cond.code yX8_lifting cX8_lifting 5 (some FieldType.int)) ∈ zx_G := zx_cdm (p := 1453) rfl
set_option maxRecDepth 20000 in
theorem zx_k204 : (Cond.code yX8_stepping cX8_stepping 7 (some FieldType.int)) ∈ zx_G := zx_cdm (p := 1461) rfl
set_option maxRecDepth 20000 in
theorem zx_k205 : (Cond.code yX8_resting cX8_resting 5 (some FieldType.int)) ∈ zx_G := zx_cdm (p := 1465) rfl
set_option maxRecDepth 20000 in
theorem zx_k206 : (Cond.code yX8_act cX8_act 4 (some FieldType.int)) ∈ zx_G := zx_cdm (p := 1449) rfl
set_option maxRecDepth 20000 in
theorem zx_k207 : (Cond.code yX8_trace cX8_trace 2 (some FieldType.int)) ∈ zx_G := zx_cdm (p := 1469) rfl
set_option maxRecDepth 20000 in
theorem zx_k208 : (Cond.code yX8_image cX8_image 1 (some FieldType.int)) ∈ zx_G := zx_cdm (p := 1473) rfl
set_option maxRecDepth 20000 in
theorem zx_k209 : (Cond.code yX8_restore cX8_restore 2 (some FieldType.int)) ∈ zx_G := zx_cdm (p := 1477) rfl
set_option maxRecDepth 20000 in
theorem zx_k210 : (Cond.code yX8_status cX8_status 2 (some FieldType.int)) ∈ zx_G := zx_cdm (p := 1481) rfl
set_option maxRecDepth 20000 in
theorem zx_k211 : (Cond.code yJ6_bitCount_0f7a4 cJ6_bitCount_0f7a4 1 (some FieldType.int)) ∈ zx_G := zx_cdm (p := 905) rfl
set_option maxRecDepth 20000 in
theorem zx_k212 : (Cond.code yJ9_max_7cf53 cJ9_max_7cf53 2 (some FieldType.int)) ∈ zx_G := zx_cdm (p := 717) rfl
set_option maxRecDepth 20000 in
theorem zx_k213 : (Cond.code yJ9_min_7cf53 cJ9_min_7cf53 2 (some FieldType.int)) ∈ zx_G := zx_cdm (p := 531) rfl
set_option maxRecDepth 20000 in
theorem zx_k214 : (Cond.code yJ0_length_8abf5 cJ0_length_8abf5 1 (some FieldType.int)) ∈ zx_G := zx_cdm (p := 596) rfl
set_option maxRecDepth 20000 in
theorem zx_k215 : (Cond.code yJ0_charAt_5068e cJ0_charAt_5068e 2 (some FieldType.char)) ∈ zx_G := zx_cdm (p := 606) rfl
set_option maxRecDepth 20000 in
theorem zx_k216 : (Cond.code yJ0_coder_7d493 cJ0_coder_7d493 1 (some FieldType.byte)) ∈ zx_G := zx_cdm (p := 600) rfl
set_option maxRecDepth 20000 in
theorem zx_k217 : (Cond.code yJ0_isLatin1_aae02 cJ0_isLatin1_aae02 1 (some FieldType.boolean)) ∈ zx_G := zx_cdm (p := 610) rfl
set_option maxRecDepth 20000 in
theorem zx_k218 : (Cond.code yJ0_checkIndex_df160 cJ0_checkIndex_df160 2 none) ∈ zx_G := zx_cdm (p := 616) rfl
set_option maxRecDepth 20000 in
theorem zx_k219 : (Cond.code yJ1_charAt_3b067 cJ1_charAt_3b067 2 (some FieldType.char)) ∈ zx_G := zx_cdm (p := 613) rfl
set_option maxRecDepth 20000 in
theorem zx_k220 : (Cond.code yJ3_checkIndex_8e157 cJ3_checkIndex_8e157 3 (some FieldType.int)) ∈ zx_G := zx_cdm (p := 621) rfl
set_option maxRecDepth 20000 in
theorem zx_kc_0 : ∀ t ∈ zx_ml_0, (Cond.code (zx_my t) (zx_mb t) (zx_mn t) (zx_mr t)) ∈ zx_G := List.forall_mem_cons.mpr ⟨zx_k0, List.forall_mem_cons.mpr ⟨zx_k1, List.forall_mem_cons.mpr ⟨zx_k2, List.forall_mem_cons.mpr ⟨zx_k3, List.forall_mem_cons.mpr ⟨zx_k4, List.forall_mem_cons.mpr ⟨zx_k5, List.forall_mem_cons.mpr ⟨zx_k6, List.forall_mem_cons.mpr ⟨zx_k7, List.forall_mem_cons.mpr ⟨zx_k8, List.forall_mem_cons.mpr ⟨zx_k9, List.forall_mem_cons.mpr ⟨zx_k10, List.forall_mem_cons.mpr ⟨zx_k11, List.forall_mem_cons.mpr ⟨zx_k12, List.forall_mem_cons.mpr ⟨zx_k13, List.forall_mem_cons.mpr ⟨zx_k14, List.forall_mem_cons.mpr ⟨zx_k15, List.forall_mem_cons.mpr ⟨zx_k16, List.forall_mem_cons.mpr ⟨zx_k17, List.forall_mem_cons.mpr ⟨zx_k18, List.forall_mem_cons.mpr ⟨zx_k19, List.forall_mem_cons.mpr ⟨zx_k20, List.forall_mem_cons.mpr ⟨zx_k21, List.forall_mem_cons.mpr ⟨zx_k22, List.forall_mem_cons.mpr ⟨zx_k23, List.forall_mem_cons.mpr ⟨zx_k24, List.forall_mem_cons.mpr ⟨zx_k25, List.forall_mem_cons.mpr ⟨zx_k26, List.forall_mem_cons.mpr ⟨zx_k27, List.forall_mem_cons.mpr ⟨zx_k28, List.forall_mem_cons.mpr ⟨zx_k29, List.forall_mem_cons.mpr ⟨zx_k30, List.forall_mem_cons.mpr ⟨zx_k31, List.forall_mem_cons.mpr ⟨zx_k32, List.forall_mem_cons.mpr ⟨zx_k33, List.forall_mem_cons.mpr ⟨zx_k34, List.forall_mem_cons.mpr ⟨zx_k35, List.forall_mem_cons.mpr ⟨zx_k36, List.forall_mem_cons.mpr ⟨zx_k37, List.forall_mem_cons.mpr ⟨zx_k38, List.forall_mem_cons.mpr ⟨zx_k39, fun _ h => absurd h List.not_mem_nil⟩⟩⟩⟩⟩⟩⟩⟩⟩⟩⟩⟩⟩⟩⟩⟩⟩⟩⟩⟩⟩⟩⟩⟩⟩⟩⟩⟩⟩⟩⟩⟩⟩⟩⟩⟩⟩⟩⟩⟩
set_option maxRecDepth 20000 in
theorem zx_kc_1 : ∀ t ∈ zx_ml_1, (Cond.code (zx_my t) (zx_mb t) (zx_mn t) (zx_mr t)) ∈ zx_G := List.forall_mem_cons.mpr ⟨zx_k40, List.forall_mem_cons.mpr ⟨zx_k41, List.forall_mem_cons.mpr ⟨zx_k42, List.forall_mem_cons.mpr ⟨zx_k43, List.forall_mem_cons.mpr ⟨zx_k44, List.forall_mem_cons.mpr ⟨zx_k45, List.forall_mem_cons.mpr ⟨zx_k46, List.forall_mem_cons.mpr ⟨zx_k47, List.forall_mem_cons.mpr ⟨zx_k48, List.forall_mem_cons.mpr ⟨zx_k49, List.forall_mem_cons.mpr ⟨zx_k50, List.forall_mem_cons.mpr ⟨zx_k51, List.forall_mem_cons.mpr ⟨zx_k52, List.forall_mem_cons.mpr ⟨zx_k53, List.forall_mem_cons.mpr ⟨zx_k54, List.forall_mem_cons.mpr ⟨zx_k55, List.forall_mem_cons.mpr ⟨zx_k56, List.forall_mem_cons.mpr ⟨zx_k57, List.forall_mem_cons.mpr ⟨zx_k58, List.forall_mem_cons.mpr ⟨zx_k59, List.forall_mem_cons.mpr ⟨zx_k60, List.forall_mem_cons.mpr ⟨zx_k61, List.forall_mem_cons.mpr ⟨zx_k62, List.forall_mem_cons.mpr ⟨zx_k63, List.forall_mem_cons.mpr ⟨zx_k64, List.forall_mem_cons.mpr ⟨zx_k65, List.forall_mem_cons.mpr ⟨zx_k66, List.forall_mem_cons.mpr ⟨zx_k67, List.forall_mem_cons.mpr ⟨zx_k68, List.forall_mem_cons.mpr ⟨zx_k69, List.forall_mem_cons.mpr ⟨zx_k70, List.forall_mem_cons.mpr ⟨zx_k71, List.forall_mem_cons.mpr ⟨zx_k72, List.forall_mem_cons.mpr ⟨zx_k73, List.forall_mem_cons.mpr ⟨zx_k74, List.forall_mem_cons.mpr ⟨zx_k75, List.forall_mem_cons.mpr ⟨zx_k76, List.forall_mem_cons.mpr ⟨zx_k77, List.forall_mem_cons.mpr ⟨zx_k78, List.forall_mem_cons.mpr ⟨zx_k79, fun _ h => absurd h List.not_mem_nil⟩⟩⟩⟩⟩⟩⟩⟩⟩⟩⟩⟩⟩⟩⟩⟩⟩⟩⟩⟩⟩⟩⟩⟩⟩⟩⟩⟩⟩⟩⟩⟩⟩⟩⟩⟩⟩⟩⟩⟩
set_option maxRecDepth 20000 in
theorem zx_kc_2 : ∀ t ∈ zx_ml_2, (Cond.code (zx_my t) (zx_mb t) (zx_mn t) (zx_mr t)) ∈ zx_G := List.forall_mem_cons.mpr ⟨zx_k80, List.forall_mem_cons.mpr ⟨zx_k81, List.forall_mem_cons.mpr ⟨zx_k82, List.forall_mem_cons.mpr ⟨zx_k83, List.forall_mem_cons.mpr ⟨zx_k84, List.forall_mem_cons.mpr ⟨zx_k85, List.forall_mem_cons.mpr ⟨zx_k86, List.forall_mem_cons.mpr ⟨zx_k87, List.forall_mem_cons.mpr ⟨zx_k88, List.forall_mem_cons.mpr ⟨zx_k89, List.forall_mem_cons.mpr ⟨zx_k90, List.forall_mem_cons.mpr ⟨zx_k91, List.forall_mem_cons.mpr ⟨zx_k92, List.forall_mem_cons.mpr ⟨zx_k93, List.forall_mem_cons.mpr ⟨zx_k94, List.forall_mem_cons.mpr ⟨zx_k95, List.forall_mem_cons.mpr ⟨zx_k96, List.forall_mem_cons.mpr ⟨zx_k97, List.forall_mem_cons.mpr ⟨zx_k98, List.forall_mem_cons.mpr ⟨zx_k99, List.forall_mem_cons.mpr ⟨zx_k100, List.forall_mem_cons.mpr ⟨zx_k101, List.forall_mem_cons.mpr ⟨zx_k102, List.forall_mem_cons.mpr ⟨zx_k103, List.forall_mem_cons.mpr ⟨zx_k104, List.forall_mem_cons.mpr ⟨zx_k105, List.forall_mem_cons.mpr ⟨zx_k106, List.forall_mem_cons.mpr ⟨zx_k107, List.forall_mem_cons.mpr ⟨zx_k108, List.forall_mem_cons.mpr ⟨zx_k109, List.forall_mem_cons.mpr ⟨zx_k110, List.forall_mem_cons.mpr ⟨zx_k111, List.forall_mem_cons.mpr ⟨zx_k112, List.forall_mem_cons.mpr ⟨zx_k113, List.forall_mem_cons.mpr ⟨zx_k114, List.forall_mem_cons.mpr ⟨zx_k115, List.forall_mem_cons.mpr ⟨zx_k116, List.forall_mem_cons.mpr ⟨zx_k117, List.forall_mem_cons.mpr ⟨zx_k118, List.forall_mem_cons.mpr ⟨zx_k119, fun _ h => absurd h List.not_mem_nil⟩⟩⟩⟩⟩⟩⟩⟩⟩⟩⟩⟩⟩⟩⟩⟩⟩⟩⟩⟩⟩⟩⟩⟩⟩⟩⟩⟩⟩⟩⟩⟩⟩⟩⟩⟩⟩⟩⟩⟩
set_option maxRecDepth 20000 in
theorem zx_kc_3 : ∀ t ∈ zx_ml_3, (Cond.code (zx_my t) (zx_mb t) (zx_mn t) (zx_mr t)) ∈ zx_G := List.forall_mem_cons.mpr ⟨zx_k120, List.forall_mem_cons.mpr ⟨zx_k121, List.forall_mem_cons.mpr ⟨zx_k122, List.forall_mem_cons.mpr ⟨zx_k123, List.forall_mem_cons.mpr ⟨zx_k124, List.forall_mem_cons.mpr ⟨zx_k125, List.forall_mem_cons.mpr ⟨zx_k126, List.forall_mem_cons.mpr ⟨zx_k127, List.forall_mem_cons.mpr ⟨zx_k128, List.forall_mem_cons.mpr ⟨zx_k129, List.forall_mem_cons.mpr ⟨zx_k130, List.forall_mem_cons.mpr ⟨zx_k131, List.forall_mem_cons.mpr ⟨zx_k132, List.forall_mem_cons.mpr ⟨zx_k133, List.forall_mem_cons.mpr ⟨zx_k134, List.forall_mem_cons.mpr ⟨zx_k135, List.forall_mem_cons.mpr ⟨zx_k136, List.forall_mem_cons.mpr ⟨zx_k137, List.forall_mem_cons.mpr ⟨zx_k138, List.forall_mem_cons.mpr ⟨zx_k139, List.forall_mem_cons.mpr ⟨zx_k140, List.forall_mem_cons.mpr ⟨zx_k141, List.forall_mem_cons.mpr ⟨zx_k142, List.forall_mem_cons.mpr ⟨zx_k143, List.forall_mem_cons.mpr ⟨zx_k144, List.forall_mem_cons.mpr ⟨zx_k145, List.forall_mem_cons.mpr ⟨zx_k146, List.forall_mem_cons.mpr ⟨zx_k147, List.forall_mem_cons.mpr ⟨zx_k148, List.forall_mem_cons.mpr ⟨zx_k149, List.forall_mem_cons.mpr ⟨zx_k150, List.forall_mem_cons.mpr ⟨zx_k151, List.forall_mem_cons.mpr ⟨zx_k152, List.forall_mem_cons.mpr ⟨zx_k153, List.forall_mem_cons.mpr ⟨zx_k154, List.forall_mem_cons.mpr ⟨zx_k155, List.forall_mem_cons.mpr ⟨zx_k156, List.forall_mem_cons.mpr ⟨zx_k157, List.forall_mem_cons.mpr ⟨zx_k158, List.forall_mem_cons.mpr ⟨zx_k159, fun _ h => absurd h List.not_mem_nil⟩⟩⟩⟩⟩⟩⟩⟩⟩⟩⟩⟩⟩⟩⟩⟩⟩⟩⟩⟩⟩⟩⟩⟩⟩⟩⟩⟩⟩⟩⟩⟩⟩⟩⟩⟩⟩⟩⟩⟩
set_option maxRecDepth 20000 in
theorem zx_kc_4 : ∀ t ∈ zx_ml_4, (Cond.code (zx_my t) (zx_mb t) (zx_mn t) (zx_mr t)) ∈ zx_G := List.forall_mem_cons.mpr ⟨zx_k160, List.forall_mem_cons.mpr ⟨zx_k161, List.forall_mem_cons.mpr ⟨zx_k162, List.forall_mem_cons.mpr ⟨zx_k163, List.forall_mem_cons.mpr ⟨zx_k164, List.forall_mem_cons.mpr ⟨zx_k165, List.forall_mem_cons.mpr ⟨zx_k166, List.forall_mem_cons.mpr ⟨zx_k167, List.forall_mem_cons.mpr ⟨zx_k168, List.forall_mem_cons.mpr ⟨zx_k169, List.forall_mem_cons.mpr ⟨zx_k170, List.forall_mem_cons.mpr ⟨zx_k171, List.forall_mem_cons.mpr ⟨zx_k172, List.forall_mem_cons.mpr ⟨zx_k173, List.forall_mem_cons.mpr ⟨zx_k174, List.forall_mem_cons.mpr ⟨zx_k175, List.forall_mem_cons.mpr ⟨zx_k176, List.forall_mem_cons.mpr ⟨zx_k177, List.forall_mem_cons.mpr ⟨zx_k178, List.forall_mem_cons.mpr ⟨zx_k179, List.forall_mem_cons.mpr ⟨zx_k180, List.forall_mem_cons.mpr ⟨zx_k181, List.forall_mem_cons.mpr ⟨zx_k182, List.forall_mem_cons.mpr ⟨zx_k183, List.forall_mem_cons.mpr ⟨zx_k184, List.forall_mem_cons.mpr ⟨zx_k185, List.forall_mem_cons.mpr ⟨zx_k186, List.forall_mem_cons.mpr ⟨zx_k187, List.forall_mem_cons.mpr ⟨zx_k188, List.forall_mem_cons.mpr ⟨zx_k189, List.forall_mem_cons.mpr ⟨zx_k190, List.forall_mem_cons.mpr ⟨zx_k191, List.forall_mem_cons.mpr ⟨zx_k192, List.forall_mem_cons.mpr ⟨zx_k193, List.forall_mem_cons.mpr ⟨zx_k194, List.forall_mem_cons.mpr ⟨zx_k195, List.forall_mem_cons.mpr ⟨zx_k196, List.forall_mem_cons.mpr ⟨zx_k197, List.forall_mem_cons.mpr ⟨zx_k198, List.forall_mem_cons.mpr ⟨zx_k199, fun _ h => absurd h List.not_mem_nil⟩⟩⟩⟩⟩⟩⟩⟩⟩⟩⟩⟩⟩⟩⟩⟩⟩⟩⟩⟩⟩⟩⟩⟩⟩⟩⟩⟩⟩⟩⟩⟩⟩⟩⟩⟩⟩⟩⟩⟩
set_option maxRecDepth 20000 in
theorem zx_kc_5 : ∀ t ∈ zx_ml_5, (Cond.code (zx_my t) (zx_mb t) (zx_mn t) (zx_mr t)) ∈ zx_G := List.forall_mem_cons.mpr ⟨zx_k200, List.forall_mem_cons.mpr ⟨zx_k201, List.forall_mem_cons.mpr ⟨zx_k202, List.forall_mem_cons.mpr ⟨zx_k203, List.forall_mem_cons.mpr ⟨zx_k204, List.forall_mem_cons.mpr ⟨zx_k205, List.forall_mem_cons.mpr ⟨zx_k206, List.forall_mem_cons.mpr ⟨zx_k207, List.forall_mem_cons.mpr ⟨zx_k208, List.forall_mem_cons.mpr ⟨zx_k209, List.forall_mem_cons.mpr ⟨zx_k210, List.forall_mem_cons.mpr ⟨zx_k211, List.forall_mem_cons.mpr ⟨zx_k212, List.forall_mem_cons.mpr ⟨zx_k213, List.forall_mem_cons.mpr ⟨zx_k214, List.forall_mem_cons.mpr ⟨zx_k215, List.forall_mem_cons.mpr ⟨zx_k216, List.forall_mem_cons.mpr ⟨zx_k217, List.forall_mem_cons.mpr ⟨zx_k218, List.forall_mem_cons.mpr ⟨zx_k219, List.forall_mem_cons.mpr ⟨zx_k220, fun _ h => absurd h List.not_mem_nil⟩⟩⟩⟩⟩⟩⟩⟩⟩⟩⟩⟩⟩⟩⟩⟩⟩⟩⟩⟩⟩
set_option maxRecDepth 20000 in
theorem zx_kc : ∀ t ∈ zx_ml, (Cond.code (zx_my t) (zx_mb t) (zx_mn t) (zx_mr t)) ∈ zx_G := by
  show ∀ t ∈ zx_ml_0 ++ zx_ml_1 ++ zx_ml_2 ++ zx_ml_3 ++ zx_ml_4 ++ zx_ml_5, _
  exact List.forall_mem_append.mpr ⟨List.forall_mem_append.mpr ⟨List.forall_mem_append.mpr ⟨List.forall_mem_append.mpr ⟨List.forall_mem_append.mpr ⟨zx_kc_0, zx_kc_1⟩, zx_kc_2⟩, zx_kc_3⟩, zx_kc_4⟩, zx_kc_5⟩
