section
-- ===== PART A: goes FIRST, ahead of the names: the tables' words, and 'selects' of the private methods out of them =====
/-- a private method of a class that the tables say can be made, by its rows of tables_1 -/
def lw_okq (q : MethodName × Nat) : Prop := (q.1.cls ≠ "java/lang/invoke/MethodHandle" ∧ q.1.cls ≠ "java/lang/invoke/VarHandle") ∧ Cond.instantiable q.1.cls q.2 ∈ tables_1 ∧ Cond.privateMethod q.1 ∈ tables_1 ∧ Cond.instanceMethod q.1 ∈ tables_1
theorem lw_p0 : lw_okq (⟨"java/lang/Throwable", "fillInStackTrace", "(I)Ljava/lang/Throwable;"⟩, 6) := ⟨⟨by decide +kernel, by decide +kernel⟩, List.mem_of_getElem? (i := 479) (by decide +kernel), List.mem_of_getElem? (i := 477) (by decide +kernel), List.mem_of_getElem? (i := 478) (by decide +kernel)⟩
theorem lw_p1 : lw_okq (⟨"CourierRelayModel", "fails", "(I)I"⟩, 11) := ⟨⟨by decide +kernel, by decide +kernel⟩, List.mem_of_getElem? (i := 714) (by decide +kernel), List.mem_of_getElem? (i := 772) (by decide +kernel), List.mem_of_getElem? (i := 773) (by decide +kernel)⟩
theorem lw_p2 : lw_okq (⟨"CourierRelayModel", "hold", "()V"⟩, 11) := ⟨⟨by decide +kernel, by decide +kernel⟩, List.mem_of_getElem? (i := 714) (by decide +kernel), List.mem_of_getElem? (i := 776) (by decide +kernel), List.mem_of_getElem? (i := 777) (by decide +kernel)⟩
theorem lw_p3 : lw_okq (⟨"CourierRelayModel", "sets", "(III)V"⟩, 11) := ⟨⟨by decide +kernel, by decide +kernel⟩, List.mem_of_getElem? (i := 714) (by decide +kernel), List.mem_of_getElem? (i := 783) (by decide +kernel), List.mem_of_getElem? (i := 784) (by decide +kernel)⟩
theorem lw_p4 : lw_okq (⟨"CourierRelayModel", "frees", "(I)V"⟩, 11) := ⟨⟨by decide +kernel, by decide +kernel⟩, List.mem_of_getElem? (i := 714) (by decide +kernel), List.mem_of_getElem? (i := 787) (by decide +kernel), List.mem_of_getElem? (i := 788) (by decide +kernel)⟩
theorem lw_p5 : lw_okq (⟨"CourierRelayModel", "ends", "(I)I"⟩, 11) := ⟨⟨by decide +kernel, by decide +kernel⟩, List.mem_of_getElem? (i := 714) (by decide +kernel), List.mem_of_getElem? (i := 791) (by decide +kernel), List.mem_of_getElem? (i := 792) (by decide +kernel)⟩
theorem lw_p6 : lw_okq (⟨"CourierRelayModel", "tells", "(I)I"⟩, 11) := ⟨⟨by decide +kernel, by decide +kernel⟩, List.mem_of_getElem? (i := 714) (by decide +kernel), List.mem_of_getElem? (i := 795) (by decide +kernel), List.mem_of_getElem? (i := 796) (by decide +kernel)⟩
theorem lw_p7 : lw_okq (⟨"CourierRelayModel", "isCourier", "(I)Z"⟩, 11) := ⟨⟨by decide +kernel, by decide +kernel⟩, List.mem_of_getElem? (i := 714) (by decide +kernel), List.mem_of_getElem? (i := 803) (by decide +kernel), List.mem_of_getElem? (i := 804) (by decide +kernel)⟩
theorem lw_p8 : lw_okq (⟨"CourierRelayModel", "of", "(II)I"⟩, 11) := ⟨⟨by decide +kernel, by decide +kernel⟩, List.mem_of_getElem? (i := 714) (by decide +kernel), List.mem_of_getElem? (i := 807) (by decide +kernel), List.mem_of_getElem? (i := 808) (by decide +kernel)⟩
theorem lw_p9 : lw_okq (⟨"CourierRelayModel", "comes", "(IIII)V"⟩, 11) := ⟨⟨by decide +kernel, by decide +kernel⟩, List.mem_of_getElem? (i := 714) (by decide +kernel), List.mem_of_getElem? (i := 815) (by decide +kernel), List.mem_of_getElem? (i := 816) (by decide +kernel)⟩
theorem lw_p10 : lw_okq (⟨"CourierRelayModel", "puts", "(III)V"⟩, 11) := ⟨⟨by decide +kernel, by decide +kernel⟩, List.mem_of_getElem? (i := 714) (by decide +kernel), List.mem_of_getElem? (i := 819) (by decide +kernel), List.mem_of_getElem? (i := 820) (by decide +kernel)⟩
theorem lw_p11 : lw_okq (⟨"CourierRelayModel", "drops", "(I)I"⟩, 11) := ⟨⟨by decide +kernel, by decide +kernel⟩, List.mem_of_getElem? (i := 714) (by decide +kernel), List.mem_of_getElem? (i := 831) (by decide +kernel), List.mem_of_getElem? (i := 832) (by decide +kernel)⟩
theorem lw_p12 : lw_okq (⟨"CourierRelayModel", "inState", "(I)I"⟩, 11) := ⟨⟨by decide +kernel, by decide +kernel⟩, List.mem_of_getElem? (i := 714) (by decide +kernel), List.mem_of_getElem? (i := 839) (by decide +kernel), List.mem_of_getElem? (i := 840) (by decide +kernel)⟩
theorem lw_p13 : lw_okq (⟨"CourierRelayModel", "its", "(II)I"⟩, 11) := ⟨⟨by decide +kernel, by decide +kernel⟩, List.mem_of_getElem? (i := 714) (by decide +kernel), List.mem_of_getElem? (i := 843) (by decide +kernel), List.mem_of_getElem? (i := 844) (by decide +kernel)⟩
theorem lw_p14 : lw_okq (⟨"CourierRelayModel", "ticks", "(I)V"⟩, 11) := ⟨⟨by decide +kernel, by decide +kernel⟩, List.mem_of_getElem? (i := 714) (by decide +kernel), List.mem_of_getElem? (i := 847) (by decide +kernel), List.mem_of_getElem? (i := 848) (by decide +kernel)⟩
theorem lw_p15 : lw_okq (⟨"CourierRelayModel", "tick", "()V"⟩, 11) := ⟨⟨by decide +kernel, by decide +kernel⟩, List.mem_of_getElem? (i := 714) (by decide +kernel), List.mem_of_getElem? (i := 851) (by decide +kernel), List.mem_of_getElem? (i := 852) (by decide +kernel)⟩
def lw_privs_1 : List (MethodName × Nat) := [(⟨"java/lang/Throwable", "fillInStackTrace", "(I)Ljava/lang/Throwable;"⟩, 6), (⟨"CourierRelayModel", "fails", "(I)I"⟩, 11), (⟨"CourierRelayModel", "hold", "()V"⟩, 11), (⟨"CourierRelayModel", "sets", "(III)V"⟩, 11), (⟨"CourierRelayModel", "frees", "(I)V"⟩, 11), (⟨"CourierRelayModel", "ends", "(I)I"⟩, 11), (⟨"CourierRelayModel", "tells", "(I)I"⟩, 11), (⟨"CourierRelayModel", "isCourier", "(I)Z"⟩, 11), (⟨"CourierRelayModel", "of", "(II)I"⟩, 11), (⟨"CourierRelayModel", "comes", "(IIII)V"⟩, 11), (⟨"CourierRelayModel", "puts", "(III)V"⟩, 11), (⟨"CourierRelayModel", "drops", "(I)I"⟩, 11), (⟨"CourierRelayModel", "inState", "(I)I"⟩, 11), (⟨"CourierRelayModel", "its", "(II)I"⟩, 11), (⟨"CourierRelayModel", "ticks", "(I)V"⟩, 11), (⟨"CourierRelayModel", "tick", "()V"⟩, 11)]
theorem lw_r1 : ∀ q ∈ lw_privs_1, lw_okq q := List.forall_mem_cons.mpr ⟨lw_p0, List.forall_mem_cons.mpr ⟨lw_p1, List.forall_mem_cons.mpr ⟨lw_p2, List.forall_mem_cons.mpr ⟨lw_p3, List.forall_mem_cons.mpr ⟨lw_p4, List.forall_mem_cons.mpr ⟨lw_p5, List.forall_mem_cons.mpr ⟨lw_p6, List.forall_mem_cons.mpr ⟨lw_p7, List.forall_mem_cons.mpr ⟨lw_p8, List.forall_mem_cons.mpr ⟨lw_p9, List.forall_mem_cons.mpr ⟨lw_p10, List.forall_mem_cons.mpr ⟨lw_p11, List.forall_mem_cons.mpr ⟨lw_p12, List.forall_mem_cons.mpr ⟨lw_p13, List.forall_mem_cons.mpr ⟨lw_p14, List.forall_mem_cons.mpr ⟨lw_p15, fun _ h => absurd h List.not_mem_nil⟩⟩⟩⟩⟩⟩⟩⟩⟩⟩⟩⟩⟩⟩⟩⟩
theorem lw_p16 : lw_okq (⟨"CourierRelayModel", "carries", "(II)V"⟩, 11) := ⟨⟨by decide +kernel, by decide +kernel⟩, List.mem_of_getElem? (i := 714) (by decide +kernel), List.mem_of_getElem? (i := 855) (by decide +kernel), List.mem_of_getElem? (i := 856) (by decide +kernel)⟩
theorem lw_p17 : lw_okq (⟨"CourierRelayModel", "isIn", "(II)Z"⟩, 11) := ⟨⟨by decide +kernel, by decide +kernel⟩, List.mem_of_getElem? (i := 714) (by decide +kernel), List.mem_of_getElem? (i := 862) (by decide +kernel), List.mem_of_getElem? (i := 863) (by decide +kernel)⟩
theorem lw_p18 : lw_okq (⟨"CourierRelayModel", "delivers", "(II)V"⟩, 11) := ⟨⟨by decide +kernel, by decide +kernel⟩, List.mem_of_getElem? (i := 714) (by decide +kernel), List.mem_of_getElem? (i := 866) (by decide +kernel), List.mem_of_getElem? (i := 867) (by decide +kernel)⟩
theorem lw_p19 : lw_okq (⟨"CourierRelayModel", "shares", "(II)V"⟩, 11) := ⟨⟨by decide +kernel, by decide +kernel⟩, List.mem_of_getElem? (i := 714) (by decide +kernel), List.mem_of_getElem? (i := 870) (by decide +kernel), List.mem_of_getElem? (i := 871) (by decide +kernel)⟩
theorem lw_p20 : lw_okq (⟨"CourierRelayModel", "legsOf", "(I)I"⟩, 11) := ⟨⟨by decide +kernel, by decide +kernel⟩, List.mem_of_getElem? (i := 714) (by decide +kernel), List.mem_of_getElem? (i := 874) (by decide +kernel), List.mem_of_getElem? (i := 875) (by decide +kernel)⟩
theorem lw_p21 : lw_okq (⟨"CourierRelayModel", "goes", "(II)V"⟩, 11) := ⟨⟨by decide +kernel, by decide +kernel⟩, List.mem_of_getElem? (i := 714) (by decide +kernel), List.mem_of_getElem? (i := 878) (by decide +kernel), List.mem_of_getElem? (i := 879) (by decide +kernel)⟩
theorem lw_p22 : lw_okq (⟨"CourierRelayModel", "chooses", "(I)V"⟩, 11) := ⟨⟨by decide +kernel, by decide +kernel⟩, List.mem_of_getElem? (i := 714) (by decide +kernel), List.mem_of_getElem? (i := 882) (by decide +kernel), List.mem_of_getElem? (i := 883) (by decide +kernel)⟩
theorem lw_p23 : lw_okq (⟨"CourierRelayModel", "suits", "(II)Z"⟩, 11) := ⟨⟨by decide +kernel, by decide +kernel⟩, List.mem_of_getElem? (i := 714) (by decide +kernel), List.mem_of_getElem? (i := 886) (by decide +kernel), List.mem_of_getElem? (i := 887) (by decide +kernel)⟩
theorem lw_p24 : lw_okq (⟨"CourierRelayModel", "isAsked", "(II)Z"⟩, 11) := ⟨⟨by decide +kernel, by decide +kernel⟩, List.mem_of_getElem? (i := 714) (by decide +kernel), List.mem_of_getElem? (i := 890) (by decide +kernel), List.mem_of_getElem? (i := 891) (by decide +kernel)⟩
theorem lw_p25 : lw_okq (⟨"CourierRelayModel", "failsOf", "(I)V"⟩, 11) := ⟨⟨by decide +kernel, by decide +kernel⟩, List.mem_of_getElem? (i := 714) (by decide +kernel), List.mem_of_getElem? (i := 894) (by decide +kernel), List.mem_of_getElem? (i := 895) (by decide +kernel)⟩
theorem lw_p26 : lw_okq (⟨"CourierRelayModel", "valueOf", "(I)I"⟩, 11) := ⟨⟨by decide +kernel, by decide +kernel⟩, List.mem_of_getElem? (i := 714) (by decide +kernel), List.mem_of_getElem? (i := 902) (by decide +kernel), List.mem_of_getElem? (i := 903) (by decide +kernel)⟩
theorem lw_p27 : lw_okq (⟨"CourierRelayModel", "courierOf", "(II)I"⟩, 11) := ⟨⟨by decide +kernel, by decide +kernel⟩, List.mem_of_getElem? (i := 714) (by decide +kernel), List.mem_of_getElem? (i := 910) (by decide +kernel), List.mem_of_getElem? (i := 911) (by decide +kernel)⟩
theorem lw_p28 : lw_okq (⟨"CourierRelayModel", "isParcel", "(I)Z"⟩, 11) := ⟨⟨by decide +kernel, by decide +kernel⟩, List.mem_of_getElem? (i := 714) (by decide +kernel), List.mem_of_getElem? (i := 918) (by decide +kernel), List.mem_of_getElem? (i := 919) (by decide +kernel)⟩
theorem lw_p29 : lw_okq (⟨"CourierRelayModel", "parcelOf", "(II)I"⟩, 11) := ⟨⟨by decide +kernel, by decide +kernel⟩, List.mem_of_getElem? (i := 714) (by decide +kernel), List.mem_of_getElem? (i := 922) (by decide +kernel), List.mem_of_getElem? (i := 923) (by decide +kernel)⟩
theorem lw_p30 : lw_okq (⟨"CourierRelayModel", "relays", "(I)I"⟩, 11) := ⟨⟨by decide +kernel, by decide +kernel⟩, List.mem_of_getElem? (i := 714) (by decide +kernel), List.mem_of_getElem? (i := 945) (by decide +kernel), List.mem_of_getElem? (i := 946) (by decide +kernel)⟩
theorem lw_p31 : lw_okq (⟨"CourierRelayModel", "reach", "(III)I"⟩, 11) := ⟨⟨by decide +kernel, by decide +kernel⟩, List.mem_of_getElem? (i := 714) (by decide +kernel), List.mem_of_getElem? (i := 949) (by decide +kernel), List.mem_of_getElem? (i := 950) (by decide +kernel)⟩
def lw_privs_2 : List (MethodName × Nat) := [(⟨"CourierRelayModel", "carries", "(II)V"⟩, 11), (⟨"CourierRelayModel", "isIn", "(II)Z"⟩, 11), (⟨"CourierRelayModel", "delivers", "(II)V"⟩, 11), (⟨"CourierRelayModel", "shares", "(II)V"⟩, 11), (⟨"CourierRelayModel", "legsOf", "(I)I"⟩, 11), (⟨"CourierRelayModel", "goes", "(II)V"⟩, 11), (⟨"CourierRelayModel", "chooses", "(I)V"⟩, 11), (⟨"CourierRelayModel", "suits", "(II)Z"⟩, 11), (⟨"CourierRelayModel", "isAsked", "(II)Z"⟩, 11), (⟨"CourierRelayModel", "failsOf", "(I)V"⟩, 11), (⟨"CourierRelayModel", "valueOf", "(I)I"⟩, 11), (⟨"CourierRelayModel", "courierOf", "(II)I"⟩, 11), (⟨"CourierRelayModel", "isParcel", "(I)Z"⟩, 11), (⟨"CourierRelayModel", "parcelOf", "(II)I"⟩, 11), (⟨"CourierRelayModel", "relays", "(I)I"⟩, 11), (⟨"CourierRelayModel", "reach", "(III)I"⟩, 11)]
theorem lw_r2 : ∀ q ∈ lw_privs_2, lw_okq q := List.forall_mem_cons.mpr ⟨lw_p16, List.forall_mem_cons.mpr ⟨lw_p17, List.forall_mem_cons.mpr ⟨lw_p18, List.forall_mem_cons.mpr ⟨lw_p19, List.forall_mem_cons.mpr ⟨lw_p20, List.forall_mem_cons.mpr ⟨lw_p21, List.forall_mem_cons.mpr ⟨lw_p22, List.forall_mem_cons.mpr ⟨lw_p23, List.forall_mem_cons.mpr ⟨lw_p24, List.forall_mem_cons.mpr ⟨lw_p25, List.forall_mem_cons.mpr ⟨lw_p26, List.forall_mem_cons.mpr ⟨lw_p27, List.forall_mem_cons.mpr ⟨lw_p28, List.forall_mem_cons.mpr ⟨lw_p29, List.forall_mem_cons.mpr ⟨lw_p30, List.forall_mem_cons.mpr ⟨lw_p31, fun _ h => absurd h List.not_mem_nil⟩⟩⟩⟩⟩⟩⟩⟩⟩⟩⟩⟩⟩⟩⟩⟩
theorem lw_p32 : lw_okq (⟨"CourierRelayModel", "paidBy", "(I)I"⟩, 11) := ⟨⟨by decide +kernel, by decide +kernel⟩, List.mem_of_getElem? (i := 714) (by decide +kernel), List.mem_of_getElem? (i := 964) (by decide +kernel), List.mem_of_getElem? (i := 965) (by decide +kernel)⟩
theorem lw_p33 : lw_okq (⟨"CourierRelayModel", "more", "(I)I"⟩, 11) := ⟨⟨by decide +kernel, by decide +kernel⟩, List.mem_of_getElem? (i := 714) (by decide +kernel), List.mem_of_getElem? (i := 968) (by decide +kernel), List.mem_of_getElem? (i := 969) (by decide +kernel)⟩
theorem lw_p34 : lw_okq (⟨"CourierRelayModel", "isDone", "()Z"⟩, 11) := ⟨⟨by decide +kernel, by decide +kernel⟩, List.mem_of_getElem? (i := 714) (by decide +kernel), List.mem_of_getElem? (i := 984) (by decide +kernel), List.mem_of_getElem? (i := 985) (by decide +kernel)⟩
theorem lw_p35 : lw_okq (⟨"CourierRelayModel", "isItem", "()Z"⟩, 11) := ⟨⟨by decide +kernel, by decide +kernel⟩, List.mem_of_getElem? (i := 714) (by decide +kernel), List.mem_of_getElem? (i := 1000) (by decide +kernel), List.mem_of_getElem? (i := 1001) (by decide +kernel)⟩
theorem lw_p36 : lw_okq (⟨"CourierRelayModel", "isNumber", "(IIIII)Z"⟩, 11) := ⟨⟨by decide +kernel, by decide +kernel⟩, List.mem_of_getElem? (i := 714) (by decide +kernel), List.mem_of_getElem? (i := 1004) (by decide +kernel), List.mem_of_getElem? (i := 1005) (by decide +kernel)⟩
theorem lw_p37 : lw_okq (⟨"CourierRelayModel", "isAt", "(II)Z"⟩, 11) := ⟨⟨by decide +kernel, by decide +kernel⟩, List.mem_of_getElem? (i := 714) (by decide +kernel), List.mem_of_getElem? (i := 1008) (by decide +kernel), List.mem_of_getElem? (i := 1009) (by decide +kernel)⟩
theorem lw_p38 : lw_okq (⟨"CourierRelayModel", "mix", "(I)V"⟩, 11) := ⟨⟨by decide +kernel, by decide +kernel⟩, List.mem_of_getElem? (i := 714) (by decide +kernel), List.mem_of_getElem? (i := 1021) (by decide +kernel), List.mem_of_getElem? (i := 1022) (by decide +kernel)⟩
def lw_privs_3 : List (MethodName × Nat) := [(⟨"CourierRelayModel", "paidBy", "(I)I"⟩, 11), (⟨"CourierRelayModel", "more", "(I)I"⟩, 11), (⟨"CourierRelayModel", "isDone", "()Z"⟩, 11), (⟨"CourierRelayModel", "isItem", "()Z"⟩, 11), (⟨"CourierRelayModel", "isNumber", "(IIIII)Z"⟩, 11), (⟨"CourierRelayModel", "isAt", "(II)Z"⟩, 11), (⟨"CourierRelayModel", "mix", "(I)V"⟩, 11)]
theorem lw_r3 : ∀ q ∈ lw_privs_3, lw_okq q := List.forall_mem_cons.mpr ⟨lw_p32, List.forall_mem_cons.mpr ⟨lw_p33, List.forall_mem_cons.mpr ⟨lw_p34, List.forall_mem_cons.mpr ⟨lw_p35, List.forall_mem_cons.mpr ⟨lw_p36, List.forall_mem_cons.mpr ⟨lw_p37, List.forall_mem_cons.mpr ⟨lw_p38, fun _ h => absurd h List.not_mem_nil⟩⟩⟩⟩⟩⟩⟩
def lw_privs : List (MethodName × Nat) := lw_privs_1 ++ (lw_privs_2 ++ (lw_privs_3))
def lw_tbl : List Cond := k2_sels lw_privs ++ tables_1
theorem lw_privs_ok : ∀ q ∈ lw_privs, lw_okq q := by
  show ∀ q ∈ lw_privs_1 ++ (lw_privs_2 ++ (lw_privs_3)), lw_okq q
  exact List.forall_mem_append.mpr ⟨lw_r1, List.forall_mem_append.mpr ⟨lw_r2, lw_r3⟩⟩
/-- the streams that the claim lets the run draw from -/
abbrev lw_cs : List Choice := [Jvm.Choice.named "NaN.bits"]
theorem lw_bits : nanBits ∈ lw_cs := by first | decide | exact List.mem_cons_self | simp [lw_cs, nanBits]
-- ===== end of PART A
/-! ===== BEGIN words of one list among another's, by their places ===== -/
theorem goodIn_r {big : List Cond} (ws : List Cond) (ps : List Nat) (hp : ws = ps.filterMap (fun i => big[i]?)) (h : ws.all goodWord = true) : GoodIn big ws := by
  intro w hw
  have h1 := List.all_eq_true.mp h w hw
  rw [hp] at hw
  obtain ⟨i, -, hi⟩ := List.mem_filterMap.mp hw
  have hm : w ∈ big := by first | exact List.mem_of_getElem? hi | exact List.getElem?_mem hi
  exact ⟨hm, good_of_word h1⟩
theorem goodIn_app {big a b : List Cond} (ha : GoodIn big a) (hb : GoodIn big b) : GoodIn big (a ++ b) := fun w h => (List.mem_append.mp h).elim (ha w) (hb w)
theorem goodIn_ca {big a b : List Cond} {c : Cond} (ha : GoodIn big (c :: a)) (hb : GoodIn big b) : GoodIn big (c :: (a ++ b)) := fun w h => (List.mem_cons.mp h).elim (fun e => ha w (List.mem_cons.mpr (Or.inl e))) (fun h => (List.mem_append.mp h).elim (fun h => ha w (List.mem_cons.mpr (Or.inr h))) (hb w))
theorem goodIn_sub {big ws : List Cond} (hm : ∀ w ∈ ws, w ∈ big) (h : ws.all goodWord = true) : GoodIn big ws := fun w hw => ⟨hm w hw, good_of_word (List.all_eq_true.mp h w hw)⟩
/-! ===== END ===== -/

/-! ===== BEGIN exceptions that leave a method, and their catching by the caller (launches without stack traces) ===== -/
section VXA
/-! The laws vx_back, vx_callV, vx_callS, vx_callSW, vx_throw0, vx_throwS follow proofs of the library, with one case more: JvmDerived/Free/Laws.lean (Back.of_free), Shelf42/LK1.lean (callV, callS), Shelf/KitTraced.lean (throwNew0V, throwNewS). -/
/-- where a method has thrown q: the class by its name, the cell, what was written, the world -/
def vx_T (XC : String → State → State → Prop) (st : State) (q : Addr) (t : State) (mc ms : Nat) (free : Addr → Prop) : Prop :=
  ∃ (E : String) (ce : Cell) (L : List Loc), XC E st t ∧ t.heap[q]? = some ce ∧ ce.vm = .none ∧ st.vm.findClass E = some ce.cls ∧ st.WarmedH t.vm ∧ st.sameButNew ({ t with vm := st.vm } : State) L mc ms ∧ ∀ z ∈ L, free z.base
def vx_Q (Qc : Array Value → State → Outcome → State → Prop) (XC : String → State → State → Prop) (mc ms : Nat) (free : Addr → Prop) : Array Value → State → Outcome → State → Prop := fun a st o t =>
  (Qc a st o t ∧ ∃ L, FrameEnd st o t L mc ms ∧ ∀ q ∈ L, free q.base) ∨ ∃ q, o = .threw q ∧ vx_T XC st q t mc ms free
/-- a callee that returns or throws -/
def vx_Met (l : Launch) (y : MethodName) (ws : List Cond) (rm : Room) (Pc : Array Value → State → Prop) (Qc : Array Value → State → Outcome → State → Prop) (XC : String → State → State → Prop) (mc ms : Nat) (free : Addr → Prop) : Prop :=
  MetFree l y (headSpec ws rm) Pc (fun _ _ _ _ _ => True) (vx_Q Qc XC mc ms free)
def vx_Post (XC : String → State → State → Prop) (mc ms : Nat) (free : Addr → Prop) : Pt → Array Value → Addr → Pt → Prop := fun A a q B =>
  ∃ (g : JFrame) (mk : MethodId) (t : State) (L : List Loc) (E : String) (ce : Cell), B.U.heap = t.heap ∧ B.U.vm = t.vm ∧ XC E (A.U.calling g mk a) t ∧ t.heap[q]? = some ce ∧ ce.vm = .none ∧ A.U.vm.findClass E = some ce.cls ∧ B.locs = A.locs ++ L ∧ (∀ z ∈ L, free z.base) ∧ B.cells = A.cells + mc ∧ B.slots = A.slots + ms
def vx_Back (l : Launch) (R : Room) (p : Program) (e : Env) (below : List Frame) (s : State) (sargs : Array Value) (y : MethodName) (len W9 : Nat)
    (Pre : Pt → Array Value → Prop) (Post : Pt → Array Value → Option Value → Pt → Prop) (PostX : Pt → Array Value → Addr → Pt → Prop) : Prop :=
  ∀ (m : MethodId) (meth : Method) (c : Code) (A : Pt) (g : JFrame) (ig : Instr) (mk : MethodId) (a : Array Value),
    Stand p l e R s m sargs below meth c A.U A.locs A.cells A.slots → g.method = m → g.locals.size = c.maxLocals → decode c.code g.pc = .ok (ig, len) →
    2 * g.monitorRoom + (g.stack.map fun v => v.category).sum ≤ W9 → A.U.methodNamed? y = some mk → Pre A a →
    (∃ (v : Option Value) (B : Pt), Stand p l e R s m sargs below meth c B.U B.locs B.cells B.slots ∧ Post A a v B ∧
      Steps p.tables e below (doInvoke e (A.U.setTop g) [] mk a).1 (B.U.setTop { g with pc := g.pc + len, stack := v.toList ++ g.stack })) ∨
    (∃ (q : Addr) (B : Pt), Stand p l e R s m sargs below meth c B.U B.locs B.cells B.slots ∧ PostX A a q B ∧
      Steps p.tables e below (doInvoke e (A.U.setTop g) [] mk a).1 ((B.U.setTop g).pushFrame (.throwing q)))
section Payer
variable {l : Launch} {R : Room} {p : Program} {e : Env} {below : List Frame} {s : State} {sargs : Array Value} {y : MethodName} {len W9 : Nat}
theorem vx_back {ws : List Cond} {rm : Room} {Pc : Array Value → State → Prop} {Qc : Array Value → State → Outcome → State → Prop} {XC : String → State → State → Prop} {mc ms : Nat} {free : Addr → Prop} {bytes : ByteArray} {maxL : Nat} {ret : Option FieldType}
    (hM : vx_Met l y ws rm Pc Qc XC mc ms free) (hblind : FrameBlind Pc) (hrc : rm.cells = mc) (hrs : rm.slots = ms)
    (hframes : rm.frames + 1 ≤ R.frames) (hlocals : W9 + (maxL + 11) + rm.locals ≤ R.locals)
    (hws : ∀ w ∈ ws, ∀ a' U, s.WarmedH U.vm → w.before a' U = true) (hcode : Cond.code y bytes maxL ret ∈ ws) (hinit : ∀ a' U, s.WarmedH U.vm → (Cond.initialized y.cls).before a' U = true) :
    vx_Back l R p e below s sargs y len W9 (PreOf R mc ms Pc) (PostOf Qc mc ms free) (vx_Post XC mc ms free) := by
  intro m meth c A g ig mk a X hg hsize hdg hW hn hp
  have h1 : (headSpec ws rm).pre.before a A.U = true := atoms_intro fun w hw => hws w hw _ _ X.warmed
  have h2 : (Cond.code y bytes maxL ret).before a A.U = true := hws _ hcode _ _ X.warmed
  have h3 : (Cond.initialized y.cls).before a A.U = true := hinit _ _ X.warmed
  have h4 : A.cells + (headSpec ws rm).room.cells ≤ R.cells := by rw [show (headSpec ws rm).room.cells = mc from hrc]; exact hp.1
  have h5 : A.slots + (headSpec ws rm).room.slots ≤ R.slots := by rw [show (headSpec ws rm).room.slots = ms from hrs]; exact hp.2.1
  have hPc : Pc a (A.U.calling g mk a) := hblind _ _ _ _ hp.2.2
  obtain ⟨U, Ls, c0, s0⟩ := A
  dsimp only [Pt.U, Pt.locs, Pt.cells, Pt.slots] at h1 h2 h3 h4 h5 X hn hPc ⊢
  obtain ⟨methY, cY, hmY, hcY, -, hlY, -, -, -, -⟩ := Cond.code_spec hn h2
  obtain ⟨kY, hkY, -⟩ := className_of_methodNamed hn
  have hinitY : kY.init = .initialized := Cond.initialized_spec (findClass_of_methodNamed hn) hkY h3
  have h : At U g.method c below := by rw [hg]; exact X.here
  have hlocals9 : W9 + (maxL + 11) + (headSpec ws rm).room.locals ≤ R.locals := hlocals
  have happ : (headSpec ws rm).appliesLoose y e.platform (U.calling g mk a) = true :=
    Spec.appliesLoose_calling (g := g) h hdg hn hkY hinitY
      (X.room_calling (g := g) (R' := (headSpec ws rm).room) hsize hmY hcY hframes (by rw [hlY]; omega) h4 h5) h1
  obtain ⟨mid, hmid⟩ := h.above
  have hfr : (U.setTop g).frames = (.java g :: mid) ++ below := by rw [State.frames_setTop' g h.top, hmid]; rfl
  obtain ⟨o, s₂, hsteps, -, hend, hq⟩ := Steps.callFree hM p X.admits X.cas X.clock (acts := []) hfr happ hPc trivial
  have hq' : vx_Q Qc XC mc ms free a (U.calling g mk a) o s₂ := hq
  rw [State.frames_setTop' g h.top] at hend
  obtain ⟨g₀, hg0⟩ := Option.isSome_iff_exists.mp h.top
  obtain ⟨r, hr⟩ := State.topJava?_eq_some.mp hg0
  have hr' : (({ U with heap := s₂.heap, slotsUsed := s₂.slotsUsed } : State).setVm s₂.vm).frames = .java g₀ :: r := hr
  rcases hq' with ⟨hqc, L, hfe, hL⟩ | ⟨q, rfl, E, ce, L, hx, hce, hcv, hcl, hW₂, hsm, hL⟩
  · obtain ⟨⟨v, rfl⟩, hW₂, e2, q2, q3, q4, q5, q6⟩ := id hfe
    have e3 : s₂ = ({ (U.calling g mk a).setFrames s₂.frames with heap := s₂.heap, slotsUsed := s₂.slotsUsed } : State).setVm s₂.vm := by
      have : s₂ = ({ s₂ with vm := (U.calling g mk a).vm } : State).setVm s₂.vm := rfl
      rw [e2] at this
      exact this
    obtain ⟨c₂, i₂, len₂, hc₂, hd₂, hf₂⟩ := hend
    have hW' : U.WarmedH s₂.vm := hW₂
    have hcc : c₂ = c := by
      have h1 : s₂.code? g.method = U.code? g.method := by
        rw [State.code?_eq, State.code?_eq, hW'.alike.method?]
      exact Option.some.inj (hc₂.symm.trans (h1.trans h.code))
    subst hcc
    have hlen : len₂ = len := by rw [hdg] at hd₂; cases hd₂; rfl
    subst hlen
    have hs₂ : s₂ = (({ U with heap := s₂.heap, slotsUsed := s₂.slotsUsed } : State).setVm s₂.vm).setTop { g with pc := g.pc + len₂, stack := v.toList ++ g.stack } := by
      refine e3.trans ?_
      rw [hf₂, State.calling_eq h.top, State.setFrames_setFrames, State.setTop_of_frames _ hr', hr]
      rfl
    have hsame : U.sameButNew ({ U with heap := s₂.heap, slotsUsed := s₂.slotsUsed } : State) L mc ms := by
      refine ⟨?_, q2, q3, q4, q5, q6⟩
      obtain ⟨t, ht, -⟩ := State.frames_cons hr
      show ({ U with heap := s₂.heap, slotsUsed := s₂.slotsUsed } : State) = { U.setFrames U.frames with heap := s₂.heap, slotsUsed := s₂.slotsUsed }
      rw [State.setFrames_self ht]
    subst hg
    refine Or.inl ⟨v, ⟨(({ U with heap := s₂.heap, slotsUsed := s₂.slotsUsed } : State).setVm s₂.vm), Ls ++ L, c0 + mc, s0 + ms⟩,
      ⟨X.admits, X.cas, X.clock, X.frames, X.room, X.hears, X.method, X.code, (X.here.setHeapUsed s₂.heap s₂.slotsUsed).setVm hW'.alike, X.tail, State.WarmedH.trans X.warmed hW', X.limits, X.bytes, X.same.trans (hsame.setVm s.vm)⟩,
      ⟨g, mk, s₂, L, rfl, rfl, hqc, rfl, hL, rfl, rfl⟩, ?_⟩
    show Steps p.tables e below _ ((({ U with heap := s₂.heap, slotsUsed := s₂.slotsUsed } : State).setVm s₂.vm).setTop { g with pc := g.pc + len₂, stack := v.toList ++ g.stack })
    rw [← hs₂]
    exact hsteps
  · obtain ⟨e2, q2, q3, q4, q5, q6⟩ := id hsm
    have e3 : s₂ = ({ (U.calling g mk a).setFrames s₂.frames with heap := s₂.heap, slotsUsed := s₂.slotsUsed } : State).setVm s₂.vm := by
      have : s₂ = ({ s₂ with vm := (U.calling g mk a).vm } : State).setVm s₂.vm := rfl
      rw [e2] at this
      exact this
    have hf₂ : s₂.frames = .throwing q :: .java g :: U.frames.tail := hend
    have hW' : U.WarmedH s₂.vm := hW₂
    have hs₂ : s₂ = ((({ U with heap := s₂.heap, slotsUsed := s₂.slotsUsed } : State).setVm s₂.vm).setTop g).pushFrame (.throwing q) := by
      refine e3.trans ?_
      rw [hf₂, State.calling_eq h.top, State.setFrames_setFrames, State.pushFrame, State.frames_setTop _ hr', State.setTop_of_frames _ hr', State.setFrames_setFrames, hr]
      rfl
    have hsame : U.sameButNew ({ U with heap := s₂.heap, slotsUsed := s₂.slotsUsed } : State) L mc ms := by
      refine ⟨?_, q2, q3, q4, q5, q6⟩
      obtain ⟨t, ht, -⟩ := State.frames_cons hr
      show ({ U with heap := s₂.heap, slotsUsed := s₂.slotsUsed } : State) = { U.setFrames U.frames with heap := s₂.heap, slotsUsed := s₂.slotsUsed }
      rw [State.setFrames_self ht]
    subst hg
    refine Or.inr ⟨q, ⟨(({ U with heap := s₂.heap, slotsUsed := s₂.slotsUsed } : State).setVm s₂.vm), Ls ++ L, c0 + mc, s0 + ms⟩,
      ⟨X.admits, X.cas, X.clock, X.frames, X.room, X.hears, X.method, X.code, (X.here.setHeapUsed s₂.heap s₂.slotsUsed).setVm hW'.alike, X.tail, State.WarmedH.trans X.warmed hW', X.limits, X.bytes, X.same.trans (hsame.setVm s.vm)⟩,
      ⟨g, mk, s₂, L, E, ce, rfl, rfl, hx, hce, hcv, hcl, rfl, hL, rfl, rfl⟩, ?_⟩
    show Steps p.tables e below _ (((({ U with heap := s₂.heap, slotsUsed := s₂.slotsUsed } : State).setVm s₂.vm).setTop g).pushFrame (.throwing q))
    rw [← hs₂]
    exact hsteps
end Payer
section Calls
variable {p : Program} {l : Launch} {e : Env} {R : Room} {s : State} {m : MethodId} {args : Array Value} {below : List Frame} {meth : Method} {c : Code} {T : State} {locs : List Loc} {cells slots : Nat}
theorem vx_callV (X : Stand p l e R s m args below meth c T locs cells slots) (hexec : p.tables.exec = Jvm.exec) {own C : String} {index : Nat} {y : MethodName} {bytes : ByteArray} {maxL : Nat} {ret : Option FieldType}
    (hown : s.vm.findClass own = some m.cls) (hlink : (Cond.methodLink own index y).before args s = true) (hinst : (Cond.instanceMethod y).before args s = true) (hsel : (Cond.selects C y y).before args s = true)
    (hcode : (Cond.code y bytes maxL ret).before args s = true) (hy : y.cls ≠ "java/lang/invoke/MethodHandle" ∧ y.cls ≠ "java/lang/invoke/VarHandle")
    {W9 : Nat} {Pre : Pt → Array Value → Prop} {Post : Pt → Array Value → Option Value → Pt → Prop} {PostX : Pt → Array Value → Addr → Pt → Prop} (hK : vx_Back l R p e below s args y 3 W9 Pre Post PostX)
    {b : Addr} {cellB : Cell} (hcell : T.heap[b]? = some cellB) (hobj : cellB.vm.isStatics = false) (hcls : s.vm.findClass C = some cellB.cls)
    {g : JFrame} (hg : g.method = m) (hsize : g.locals.size = c.maxLocals) {argsL rest : List Value} (hlen : ∀ sig, parseMethodDescriptor y.desc = some sig → argsL.length = sig.parameters.length)
    (hstack : g.stack = argsL.reverse ++ .ref b :: rest) (hW : 2 * g.monitorRoom + (rest.map fun v => v.category).sum ≤ W9) (hdg : decode c.code g.pc = .ok (.invokevirtual index, 3))
    (hpre : ∀ vm₁, s.WarmedH vm₁ → Pre ⟨T.setVm vm₁, locs, cells, slots⟩ (Value.ref b :: argsL).toArray) :
    (∃ (v : Option Value) (vm₁ : Vm) (B : Pt), s.WarmedH vm₁ ∧ Stand p l e R s m args below meth c B.U B.locs B.cells B.slots ∧ Post ⟨T.setVm vm₁, locs, cells, slots⟩ (Value.ref b :: argsL).toArray v B ∧
      ∀ target, Steps p.tables e below (B.U.setTop { g with pc := g.pc + 3, stack := v.toList ++ rest }) target → Steps p.tables e below (T.setTop g) target) ∨
    (∃ (q : Addr) (vm₁ : Vm) (B : Pt), s.WarmedH vm₁ ∧ Stand p l e R s m args below meth c B.U B.locs B.cells B.slots ∧ PostX ⟨T.setVm vm₁, locs, cells, slots⟩ (Value.ref b :: argsL).toArray q B ∧
      Steps p.tables e below (T.setTop g) ((B.U.setTop { g with stack := rest }).pushFrame (.throwing q))) := by
  obtain ⟨mk, methM, hnamed, hmethM, hstM, habM⟩ := Cond.instanceMethod_spec hinst
  obtain ⟨methM', cM, hmethM', -, -, -, -, -, -, hsigM⟩ := Cond.code_spec hnamed hcode
  cases hmethM.symm.trans hmethM'
  obtain ⟨c2, r2, m2, q1, q2, q3, q4, kP, hkP, hkPi⟩ := Cond.selects_spec hsel
  cases hcls.symm.trans q1
  cases (State.methodFound?_of_named hnamed hy).symm.trans q2
  cases hnamed.symm.trans q3
  have hselP : selectMethod e.platform s.vm cellB.cls mk = .method mk := by rw [Launch.admits_selectMethod X.admits]; exact q4
  obtain ⟨vm₁, X₁, hstep₁⟩ := X.invokevirtual hexec hown hlink hnamed hmethM hstM hkP hkPi hy (a := b) (cell := cellB) hcell
    (fun z h => by rw [h] at hobj; cases hobj) hselP hmethM habM hkP hkPi (g := g) hg (argsL := argsL) (rest := rest) (hlen _ hsigM) hstack hdg
  rcases hK m meth c ⟨T.setVm vm₁, locs, cells, slots⟩ { g with stack := rest } (.invokevirtual index) mk (Value.ref b :: argsL).toArray X₁ hg hsize hdg hW (X₁.named hnamed) (hpre vm₁ X₁.warmed) with ⟨v, B, X', hpost, hsteps⟩ | ⟨q, B, X', hpost, hsteps⟩
  · exact Or.inl ⟨v, vm₁, B, X₁.warmed, X', hpost, fun target h => hstep₁ _ fun acts => by rw [doInvoke_state]; exact hsteps.trans h⟩
  · exact Or.inr ⟨q, vm₁, B, X₁.warmed, X', hpost, hstep₁ _ fun acts => by rw [doInvoke_state]; exact hsteps⟩
theorem vx_callS (X : Stand p l e R s m args below meth c T locs cells slots) (hexec : p.tables.exec = Jvm.exec) {own : String} {index : Nat} {y : MethodName} {bytes : ByteArray} {maxL : Nat} {ret : Option FieldType}
    (hown : s.vm.findClass own = some m.cls) (hlink : (Cond.methodLink own index y).before args s = true) (hstat : (Cond.static y).before args s = true) (hinit : (Cond.initialized y.cls).before args s = true)
    (hcode : (Cond.code y bytes maxL ret).before args s = true) (hy : y.cls ≠ "java/lang/invoke/MethodHandle" ∧ y.cls ≠ "java/lang/invoke/VarHandle")
    {W9 : Nat} {Pre : Pt → Array Value → Prop} {Post : Pt → Array Value → Option Value → Pt → Prop} {PostX : Pt → Array Value → Addr → Pt → Prop} (hK : vx_Back l R p e below s args y 3 W9 Pre Post PostX)
    {g : JFrame} (hg : g.method = m) (hsize : g.locals.size = c.maxLocals) {argsL rest : List Value} (hlen : ∀ sig, parseMethodDescriptor y.desc = some sig → argsL.length = sig.parameters.length)
    (hstack : g.stack = argsL.reverse ++ rest) (hW : 2 * g.monitorRoom + (rest.map fun v => v.category).sum ≤ W9) (hdg : decode c.code g.pc = .ok (.invokestatic index, 3))
    (hpre : ∀ vm₁, s.WarmedH vm₁ → Pre ⟨T.setVm vm₁, locs, cells, slots⟩ argsL.toArray) :
    (∃ (v : Option Value) (vm₁ : Vm) (B : Pt), s.WarmedH vm₁ ∧ Stand p l e R s m args below meth c B.U B.locs B.cells B.slots ∧ Post ⟨T.setVm vm₁, locs, cells, slots⟩ argsL.toArray v B ∧
      ∀ target, Steps p.tables e below (B.U.setTop { g with pc := g.pc + 3, stack := v.toList ++ rest }) target → Steps p.tables e below (T.setTop g) target) ∨
    (∃ (q : Addr) (vm₁ : Vm) (B : Pt), s.WarmedH vm₁ ∧ Stand p l e R s m args below meth c B.U B.locs B.cells B.slots ∧ PostX ⟨T.setVm vm₁, locs, cells, slots⟩ argsL.toArray q B ∧
      Steps p.tables e below (T.setTop g) ((B.U.setTop { g with stack := rest }).pushFrame (.throwing q))) := by
  obtain ⟨mk, hnamed⟩ := Cond.code_named hcode
  obtain ⟨methM, cM, hmethM, -, -, -, -, -, -, hsigM⟩ := Cond.code_spec hnamed hcode
  have hstatic : methM.isStatic = true := Cond.static_spec hnamed hmethM hstat
  obtain ⟨kP, hkP, -⟩ := className_of_methodNamed hnamed
  have hinitP : kP.init = .initialized := Cond.initialized_spec (findClass_of_methodNamed hnamed) hkP hinit
  obtain ⟨vm₁, X₁, hstep₁⟩ := X.invokestatic hexec hown hlink hnamed hmethM hstatic hkP hinitP hy (g := g) hg (argsL := argsL) (rest := rest) (hlen _ hsigM) hstack hdg
  rcases hK m meth c ⟨T.setVm vm₁, locs, cells, slots⟩ { g with stack := rest } (.invokestatic index) mk argsL.toArray X₁ hg hsize hdg hW (X₁.named hnamed) (hpre vm₁ X₁.warmed) with ⟨v, B, X', hpost, hsteps⟩ | ⟨q, B, X', hpost, hsteps⟩
  · exact Or.inl ⟨v, vm₁, B, X₁.warmed, X', hpost, fun target h => hstep₁ _ fun acts => by rw [doInvoke_state]; exact hsteps.trans h⟩
  · exact Or.inr ⟨q, vm₁, B, X₁.warmed, X', hpost, hstep₁ _ fun acts => by rw [doInvoke_state]; exact hsteps⟩
end Calls
theorem vx_cls {s : State} {T : State} {vm₁ : Vm} {E : String} {k : ClassId} (hW : s.WarmedH vm₁) (h : (T.setVm vm₁).vm.findClass E = some k) : s.vm.findClass E = some k := by
  have h1 : vm₁.findClass E = some k := h
  rw [hW.alike.findClass] at h1
  exact h1
/-- the method's frame g, with q thrown over it -/
def vx_W (p : Program) (l : Launch) (e : Env) (R : Room) (s : State) (m : MethodId) (args : Array Value) (below : List Frame) (meth : Method) (c : Code) (H : Heap) (locs : List Loc) (cells slots : Nat) (Q : State → Prop) (g : JFrame) (q : Addr) : Prop :=
  ∀ T : State, T.heap = H → Stand p l e R s m args below meth c T locs cells slots → ∃ t, Steps p.tables e below ((T.setTop g).pushFrame (.throwing q)) t ∧ Q t
def vx_Run (p : Program) (l : Launch) (e : Env) (R : Room) (s : State) (m : MethodId) (args : Array Value) (below : List Frame) (meth : Method) (c : Code) (H : Heap) (locs : List Loc) (cells slots mc ms : Nat) (g : JFrame) (rest : List Value) (Qa : State → Outcome → State → Prop) (XC : String → State → State → Prop) (free : Addr → Prop) : Prop :=
  ∀ T : State, T.heap = H → Stand p l e R s m args below meth c T locs cells slots →
    (∃ (v : Option Value) (st₀ t T' : State) (L : List Loc), st₀.heap = H ∧ Stand p l e R s m args below meth c T' (locs ++ L) (cells + mc) (slots + ms) ∧ (∀ q ∈ L, free q.base) ∧ T'.heap = t.heap ∧ T'.vm = t.vm ∧ Qa st₀ (.returned v) t ∧
      Goes p e below T g T' { g with pc := g.pc + 3, stack := v.toList ++ rest }) ∨
    (∃ (q : Addr) (st₀ t T' : State) (L : List Loc) (E : String) (ce : Cell), st₀.heap = H ∧ Stand p l e R s m args below meth c T' (locs ++ L) (cells + mc) (slots + ms) ∧ (∀ z ∈ L, free z.base) ∧ T'.heap = t.heap ∧ T'.vm = t.vm ∧ XC E st₀ t ∧ t.heap[q]? = some ce ∧ ce.vm = .none ∧ s.vm.findClass E = some ce.cls ∧
      Steps p.tables e below (T.setTop g) ((T'.setTop { g with stack := rest }).pushFrame (.throwing q)))
def vx_X {S : Type} (px : S → Prop) (B : String → S → State → Prop) (A : Nat → Prop) : String → State → State → Prop := fun E st t => ∃ u : S, px u ∧ B E u t ∧ va_F A st t
section Runs
variable {p : Program} {l : Launch} {e : Env} {R : Room} {s : State} {m : MethodId} {args : Array Value} {below : List Frame} {meth : Method} {c : Code} {H : Heap} {locs : List Loc} {cells slots : Nat}
variable {y : MethodName} {bytes cc : ByteArray} {maxL nL mc ms n index : Nat} {ret : Option FieldType} {ws : List Cond} {rm : Room} {Pc : Array Value → State → Prop} {Qc : Array Value → State → Outcome → State → Prop} {XC : String → State → State → Prop} {free : Addr → Prop} {Ts : List Cond} {own C : String} {b : Addr} {As rest : List Value} {g : JFrame}
theorem vx_callBack (cb : CallB R s args own index y bytes maxL ret ws rm mc ms n) (hM : vx_Met l y ws rm Pc Qc XC mc ms free) (hbl : FrameBlind Pc) : vx_Back l R p e below s args y 3 8 (PreOf R mc ms Pc) (PostOf Qc mc ms free) (vx_Post XC mc ms free) := by
  obtain ⟨hrc, hrs, hfr, hlo, hws, hcw, -, hini, -⟩ := cb
  exact vx_back (bytes := bytes) (maxL := maxL) (ret := ret) hM hbl hrc hrs hfr hlo hws hcw (fun a' U hW => word_at hW (Or.inl (by first | rfl | simp [Cond.onTables, Cond.keeps, Cond.steady])) hini)
theorem vx_runV (S : CallFix p m c cc nL s args Ts own) (hM : vx_Met l y ws rm Pc Qc XC mc ms free) (cw : CallW R s args own C index y bytes maxL ret ws rm mc ms n) (hp : PreV s H C b Pc As)
    (hg : g.method = m) (hn : As.length = n) (hsize : g.locals.size = nL) (hstack : g.stack = As.reverse ++ .ref b :: rest) (hW : 2 * g.monitorRoom + (rest.map fun v => v.category).sum ≤ 8) (hdg : decode cc g.pc = .ok (.invokevirtual index, 3)) (hf : cells + mc ≤ R.cells ∧ slots + ms ≤ R.slots) :
    vx_Run p l e R s m args below meth c H locs cells slots mc ms g rest (Qc (Value.ref b :: As).toArray) XC free := by
  have hK : vx_Back l R p e below s args y 3 8 (PreOf R mc ms Pc) (PostOf Qc mc ms free) (vx_Post XC mc ms free) := vx_callBack cw.1 hM hp.1
  obtain ⟨⟨-, -, -, -, -, -, hcode, -, hy, hlen, hl⟩, hin, hse⟩ := cw
  obtain ⟨hx, hb, hml, ho, -⟩ := S
  obtain ⟨-, ⟨cellB, hcB, hoB, hclB⟩, hPc⟩ := hp
  intro T hT X
  rcases vx_callV X hx (C := C) (bytes := bytes) (maxL := maxL) (ret := ret) ho hl hin hse hcode hy hK (by rw [hT]; exact hcB) hoB hclB hg (hsize.trans hml.symm) (argsL := As) (rest := rest) (fun sig h => hn.trans (hlen sig h)) hstack hW (by rw [hb]; exact hdg)
    (fun vm₁ hW₁ => ⟨hf.1, hf.2, hPc (T.setVm vm₁) hT hW₁⟩) with ⟨v, vm₁, ⟨U', l2, c2, s2⟩, hW₁, X', ⟨g', mk, t, L, e1, e2, hq, h1, hL, h2, h3⟩, st⟩ | ⟨q, vm₁, ⟨U', l2, c2, s2⟩, hW₁, X', ⟨g', mk, t, L, E, ce, e1, e2, hq, hce, hcv, hcl, h1, hL, h2, h3⟩, st⟩
  · dsimp only [Pt.U, Pt.locs, Pt.cells, Pt.slots] at X' e1 e2 h1 h2 h3 st
    subst h1; subst h2; subst h3
    exact Or.inl ⟨v, (T.setVm vm₁).calling g' mk (Value.ref b :: As).toArray, t, U', L, hT, X', hL, e1, e2, hq, st⟩
  · dsimp only [Pt.U, Pt.locs, Pt.cells, Pt.slots] at X' e1 e2 h1 h2 h3 st hcl
    subst h1; subst h2; subst h3
    exact Or.inr ⟨q, (T.setVm vm₁).calling g' mk (Value.ref b :: As).toArray, t, U', L, E, ce, hT, X', hL, e1, e2, hq, hce, hcv, vx_cls hW₁ hcl, st⟩
theorem vx_runS (S : CallFix p m c cc nL s args Ts own) (hM : vx_Met l y ws rm Pc Qc XC mc ms free) (cw : CallB R s args own index y bytes maxL ret ws rm mc ms n ∧ (Cond.static y).before args s = true) (hp : PreS s H Pc As)
    (hg : g.method = m) (hn : As.length = n) (hsize : g.locals.size = nL) (hstack : g.stack = As.reverse ++ rest) (hW : 2 * g.monitorRoom + (rest.map fun v => v.category).sum ≤ 8) (hdg : decode cc g.pc = .ok (.invokestatic index, 3)) (hf : cells + mc ≤ R.cells ∧ slots + ms ≤ R.slots) :
    vx_Run p l e R s m args below meth c H locs cells slots mc ms g rest (Qc As.toArray) XC free := by
  have hK : vx_Back l R p e below s args y 3 8 (PreOf R mc ms Pc) (PostOf Qc mc ms free) (vx_Post XC mc ms free) := vx_callBack cw.1 hM hp.1
  obtain ⟨⟨-, -, -, -, -, -, hcode, hini, hy, hlen, hl⟩, hstt⟩ := cw
  obtain ⟨hx, hb, hml, ho, -⟩ := S
  intro T hT X
  rcases vx_callS X hx (bytes := bytes) (maxL := maxL) (ret := ret) ho hl hstt hini hcode hy hK hg (hsize.trans hml.symm) (argsL := As) (rest := rest) (fun sig h => hn.trans (hlen sig h)) hstack hW (by rw [hb]; exact hdg)
    (fun vm₁ hW₁ => ⟨hf.1, hf.2, hp.2 (T.setVm vm₁) hT hW₁⟩) with ⟨v, vm₁, ⟨U', l2, c2, s2⟩, hW₁, X', ⟨g', mk, t, L, e1, e2, hq, h1, hL, h2, h3⟩, st⟩ | ⟨q, vm₁, ⟨U', l2, c2, s2⟩, hW₁, X', ⟨g', mk, t, L, E, ce, e1, e2, hq, hce, hcv, hcl, h1, hL, h2, h3⟩, st⟩
  · dsimp only [Pt.U, Pt.locs, Pt.cells, Pt.slots] at X' e1 e2 h1 h2 h3 st
    subst h1; subst h2; subst h3
    exact Or.inl ⟨v, (T.setVm vm₁).calling g' mk As.toArray, t, U', L, hT, X', hL, e1, e2, hq, st⟩
  · dsimp only [Pt.U, Pt.locs, Pt.cells, Pt.slots] at X' e1 e2 h1 h2 h3 st hcl
    subst h1; subst h2; subst h3
    exact Or.inr ⟨q, (T.setVm vm₁).calling g' mk As.toArray, t, U', L, E, ce, hT, X', hL, e1, e2, hq, hce, hcv, vx_cls hW₁ hcl, st⟩
end Runs
section Rows
variable {p : Program} {l : Launch} {e : Env} {R : Room} {s : State} {m : MethodId} {args : Array Value} {below : List Frame} {meth : Method} {c : Code} {H : Heap} {locs : List Loc} {cells slots : Nat} {Q : State → Prop}
variable {mc ms : Nat} {free : Addr → Prop} {A0 A1 : Nat → Prop} {H0 : Heap} {a : Array Value} {pc : Nat} {ls : Array Slot} {st0 rest : List Value}
theorem vx_keep {st₀ t T' : State} {L : List Loc} (h0 : st₀.heap = H) (e1 : T'.heap = t.heap) (hS : va_S A0 H0 H locs) (hA : ∀ q, q < H.size → A1 q → A0 q) (hf : ∀ q, free q → A0 q) (hL : ∀ q ∈ L, free q.base) (hF : va_F A1 st₀ t) :
    H.size ≤ T'.heap.size ∧ (∀ q : Nat, q < H.size → ¬ A1 q → T'.heap[q]? = H[q]?) ∧ va_S A0 H0 T'.heap (locs ++ L) := by
  obtain ⟨hz, hk⟩ := hF
  rw [h0] at hz hk
  exact ⟨by rw [e1]; exact hz, fun q h1 h2 => by rw [e1]; exact hk q h1 h2,
    ⟨Nat.le_trans hS.1 (by rw [e1]; exact hz), fun q h1 h2 => by rw [e1, hk q (Nat.lt_of_lt_of_le h1 hS.1) (fun z => h2 (hA q (Nat.lt_of_lt_of_le h1 hS.1) z))]; exact hS.2.1 q h1 h2, fun q hq => by
      rcases List.mem_append.mp hq with h | h
      · exact hS.2.2 q h
      · exact hf _ (hL q h)⟩⟩
theorem vx_calli {S SX : Type} {post : Int32 → S → Prop} {px : SX → Prop} {B : S → State → Prop} {BX : String → SX → State → Prop} {AX : Nat → Prop} (hr : vx_Run p l e R s m args below meth c H locs cells slots mc ms (F0 m pc ls st0) rest (va_Qi post B A1 a) (vx_X px BX AX) free) (hS : va_S A0 H0 H locs) (hA : ∀ q, q < H.size → A1 q → A0 q) (hf : ∀ q, free q → A0 q) (hAX : ∀ q, q < H.size → AX q → A0 q)
    (kx : ∀ (E : String) (ce : Cell) (q9 : Addr) (u : SX) (t : State) (H1 : Heap) (locs1 : List Loc), t.heap = H1 → s.vm.Alike t.vm → px u → BX E u t → H.size ≤ H1.size → (∀ q : Nat, q < H.size → ¬ AX q → H1[q]? = H[q]?) → va_S A0 H0 H1 locs1 → H1[q9]? = some ce → ce.vm = .none → s.vm.findClass E = some ce.cls → vx_W p l e R s m args below meth c H1 locs1 (cells + mc) (slots + ms) Q (F0 m pc ls rest) q9)
    (kk : ∀ (r : Int32) (u : S) (t : State) (H1 : Heap) (locs1 : List Loc), t.heap = H1 → s.vm.Alike t.vm → post r u → B u t → H.size ≤ H1.size → (∀ q : Nat, q < H.size → ¬ A1 q → H1[q]? = H[q]?) → va_S A0 H0 H1 locs1 → W p l e R s m args below meth c H1 locs1 (cells + mc) (slots + ms) Q (F0 m (pc + 3) ls (.int r :: rest))) : W p l e R s m args below meth c H locs cells slots Q (F0 m pc ls st0) := by
  intro T hT X
  rcases hr T hT X with ⟨v, st₀, t, T', L, h0, X', hL, e1, e2, ⟨⟨r, u, hv, hp, hb⟩, hF⟩, st⟩ | ⟨q, st₀, t, T', L, E, ce, h0, X', hL, e1, e2, ⟨u, hp, hb, hF⟩, hce, hcv, hcl, st⟩
  · cases hv
    obtain ⟨k1, k2, k3⟩ := vx_keep h0 e1 hS hA hf hL hF
    obtain ⟨t2, a1, b1⟩ := kk r u t T'.heap (locs ++ L) e1.symm (by rw [← e2]; exact X'.warmed.alike) hp hb k1 k2 k3 T' rfl X'
    exact ⟨t2, st t2 a1, b1⟩
  · obtain ⟨k1, k2, k3⟩ := vx_keep h0 e1 hS hAX hf hL hF
    obtain ⟨t2, a1, b1⟩ := kx E ce q u t T'.heap (locs ++ L) e1.symm (by rw [← e2]; exact X'.warmed.alike) hp hb k1 k2 k3 (by rw [e1]; exact hce) hcv hcl T' rfl X'
    exact ⟨t2, st.trans a1, b1⟩
theorem vx_calll {S SX : Type} {post : Int64 → S → Prop} {px : SX → Prop} {B : S → State → Prop} {BX : String → SX → State → Prop} {AX : Nat → Prop} (hr : vx_Run p l e R s m args below meth c H locs cells slots mc ms (F0 m pc ls st0) rest (va_Ql post B A1 a) (vx_X px BX AX) free) (hS : va_S A0 H0 H locs) (hA : ∀ q, q < H.size → A1 q → A0 q) (hf : ∀ q, free q → A0 q) (hAX : ∀ q, q < H.size → AX q → A0 q)
    (kx : ∀ (E : String) (ce : Cell) (q9 : Addr) (u : SX) (t : State) (H1 : Heap) (locs1 : List Loc), t.heap = H1 → s.vm.Alike t.vm → px u → BX E u t → H.size ≤ H1.size → (∀ q : Nat, q < H.size → ¬ AX q → H1[q]? = H[q]?) → va_S A0 H0 H1 locs1 → H1[q9]? = some ce → ce.vm = .none → s.vm.findClass E = some ce.cls → vx_W p l e R s m args below meth c H1 locs1 (cells + mc) (slots + ms) Q (F0 m pc ls rest) q9)
    (kk : ∀ (r : Int64) (u : S) (t : State) (H1 : Heap) (locs1 : List Loc), t.heap = H1 → s.vm.Alike t.vm → post r u → B u t → H.size ≤ H1.size → (∀ q : Nat, q < H.size → ¬ A1 q → H1[q]? = H[q]?) → va_S A0 H0 H1 locs1 → W p l e R s m args below meth c H1 locs1 (cells + mc) (slots + ms) Q (F0 m (pc + 3) ls (.long r :: rest))) : W p l e R s m args below meth c H locs cells slots Q (F0 m pc ls st0) := by
  intro T hT X
  rcases hr T hT X with ⟨v, st₀, t, T', L, h0, X', hL, e1, e2, ⟨⟨r, u, hv, hp, hb⟩, hF⟩, st⟩ | ⟨q, st₀, t, T', L, E, ce, h0, X', hL, e1, e2, ⟨u, hp, hb, hF⟩, hce, hcv, hcl, st⟩
  · cases hv
    obtain ⟨k1, k2, k3⟩ := vx_keep h0 e1 hS hA hf hL hF
    obtain ⟨t2, a1, b1⟩ := kk r u t T'.heap (locs ++ L) e1.symm (by rw [← e2]; exact X'.warmed.alike) hp hb k1 k2 k3 T' rfl X'
    exact ⟨t2, st t2 a1, b1⟩
  · obtain ⟨k1, k2, k3⟩ := vx_keep h0 e1 hS hAX hf hL hF
    obtain ⟨t2, a1, b1⟩ := kx E ce q u t T'.heap (locs ++ L) e1.symm (by rw [← e2]; exact X'.warmed.alike) hp hb k1 k2 k3 (by rw [e1]; exact hce) hcv hcl T' rfl X'
    exact ⟨t2, st.trans a1, b1⟩
theorem vx_callf {S SX : Type} {post : UInt32 → S → Prop} {px : SX → Prop} {B : S → State → Prop} {BX : String → SX → State → Prop} {AX : Nat → Prop} (hr : vx_Run p l e R s m args below meth c H locs cells slots mc ms (F0 m pc ls st0) rest (va_Qf post B A1 a) (vx_X px BX AX) free) (hS : va_S A0 H0 H locs) (hA : ∀ q, q < H.size → A1 q → A0 q) (hf : ∀ q, free q → A0 q) (hAX : ∀ q, q < H.size → AX q → A0 q)
    (kx : ∀ (E : String) (ce : Cell) (q9 : Addr) (u : SX) (t : State) (H1 : Heap) (locs1 : List Loc), t.heap = H1 → s.vm.Alike t.vm → px u → BX E u t → H.size ≤ H1.size → (∀ q : Nat, q < H.size → ¬ AX q → H1[q]? = H[q]?) → va_S A0 H0 H1 locs1 → H1[q9]? = some ce → ce.vm = .none → s.vm.findClass E = some ce.cls → vx_W p l e R s m args below meth c H1 locs1 (cells + mc) (slots + ms) Q (F0 m pc ls rest) q9)
    (kk : ∀ (r : UInt32) (u : S) (t : State) (H1 : Heap) (locs1 : List Loc), t.heap = H1 → s.vm.Alike t.vm → post r u → B u t → H.size ≤ H1.size → (∀ q : Nat, q < H.size → ¬ A1 q → H1[q]? = H[q]?) → va_S A0 H0 H1 locs1 → W p l e R s m args below meth c H1 locs1 (cells + mc) (slots + ms) Q (F0 m (pc + 3) ls (.float r :: rest))) : W p l e R s m args below meth c H locs cells slots Q (F0 m pc ls st0) := by
  intro T hT X
  rcases hr T hT X with ⟨v, st₀, t, T', L, h0, X', hL, e1, e2, ⟨⟨r, u, hv, hp, hb⟩, hF⟩, st⟩ | ⟨q, st₀, t, T', L, E, ce, h0, X', hL, e1, e2, ⟨u, hp, hb, hF⟩, hce, hcv, hcl, st⟩
  · cases hv
    obtain ⟨k1, k2, k3⟩ := vx_keep h0 e1 hS hA hf hL hF
    obtain ⟨t2, a1, b1⟩ := kk r u t T'.heap (locs ++ L) e1.symm (by rw [← e2]; exact X'.warmed.alike) hp hb k1 k2 k3 T' rfl X'
    exact ⟨t2, st t2 a1, b1⟩
  · obtain ⟨k1, k2, k3⟩ := vx_keep h0 e1 hS hAX hf hL hF
    obtain ⟨t2, a1, b1⟩ := kx E ce q u t T'.heap (locs ++ L) e1.symm (by rw [← e2]; exact X'.warmed.alike) hp hb k1 k2 k3 (by rw [e1]; exact hce) hcv hcl T' rfl X'
    exact ⟨t2, st.trans a1, b1⟩
theorem vx_calld {S SX : Type} {post : UInt64 → S → Prop} {px : SX → Prop} {B : S → State → Prop} {BX : String → SX → State → Prop} {AX : Nat → Prop} (hr : vx_Run p l e R s m args below meth c H locs cells slots mc ms (F0 m pc ls st0) rest (va_Qd post B A1 a) (vx_X px BX AX) free) (hS : va_S A0 H0 H locs) (hA : ∀ q, q < H.size → A1 q → A0 q) (hf : ∀ q, free q → A0 q) (hAX : ∀ q, q < H.size → AX q → A0 q)
    (kx : ∀ (E : String) (ce : Cell) (q9 : Addr) (u : SX) (t : State) (H1 : Heap) (locs1 : List Loc), t.heap = H1 → s.vm.Alike t.vm → px u → BX E u t → H.size ≤ H1.size → (∀ q : Nat, q < H.size → ¬ AX q → H1[q]? = H[q]?) → va_S A0 H0 H1 locs1 → H1[q9]? = some ce → ce.vm = .none → s.vm.findClass E = some ce.cls → vx_W p l e R s m args below meth c H1 locs1 (cells + mc) (slots + ms) Q (F0 m pc ls rest) q9)
    (kk : ∀ (r : UInt64) (u : S) (t : State) (H1 : Heap) (locs1 : List Loc), t.heap = H1 → s.vm.Alike t.vm → post r u → B u t → H.size ≤ H1.size → (∀ q : Nat, q < H.size → ¬ A1 q → H1[q]? = H[q]?) → va_S A0 H0 H1 locs1 → W p l e R s m args below meth c H1 locs1 (cells + mc) (slots + ms) Q (F0 m (pc + 3) ls (.double r :: rest))) : W p l e R s m args below meth c H locs cells slots Q (F0 m pc ls st0) := by
  intro T hT X
  rcases hr T hT X with ⟨v, st₀, t, T', L, h0, X', hL, e1, e2, ⟨⟨r, u, hv, hp, hb⟩, hF⟩, st⟩ | ⟨q, st₀, t, T', L, E, ce, h0, X', hL, e1, e2, ⟨u, hp, hb, hF⟩, hce, hcv, hcl, st⟩
  · cases hv
    obtain ⟨k1, k2, k3⟩ := vx_keep h0 e1 hS hA hf hL hF
    obtain ⟨t2, a1, b1⟩ := kk r u t T'.heap (locs ++ L) e1.symm (by rw [← e2]; exact X'.warmed.alike) hp hb k1 k2 k3 T' rfl X'
    exact ⟨t2, st t2 a1, b1⟩
  · obtain ⟨k1, k2, k3⟩ := vx_keep h0 e1 hS hAX hf hL hF
    obtain ⟨t2, a1, b1⟩ := kx E ce q u t T'.heap (locs ++ L) e1.symm (by rw [← e2]; exact X'.warmed.alike) hp hb k1 k2 k3 (by rw [e1]; exact hce) hcv hcl T' rfl X'
    exact ⟨t2, st.trans a1, b1⟩
theorem vx_callv {S SX : Type} {post : S → Prop} {px : SX → Prop} {B : S → State → Prop} {BX : String → SX → State → Prop} {AX : Nat → Prop} (hr : vx_Run p l e R s m args below meth c H locs cells slots mc ms (F0 m pc ls st0) rest (va_Qv post B A1 a) (vx_X px BX AX) free) (hS : va_S A0 H0 H locs) (hA : ∀ q, q < H.size → A1 q → A0 q) (hf : ∀ q, free q → A0 q) (hAX : ∀ q, q < H.size → AX q → A0 q)
    (kx : ∀ (E : String) (ce : Cell) (q9 : Addr) (u : SX) (t : State) (H1 : Heap) (locs1 : List Loc), t.heap = H1 → s.vm.Alike t.vm → px u → BX E u t → H.size ≤ H1.size → (∀ q : Nat, q < H.size → ¬ AX q → H1[q]? = H[q]?) → va_S A0 H0 H1 locs1 → H1[q9]? = some ce → ce.vm = .none → s.vm.findClass E = some ce.cls → vx_W p l e R s m args below meth c H1 locs1 (cells + mc) (slots + ms) Q (F0 m pc ls rest) q9)
    (kk : ∀ (u : S) (t : State) (H1 : Heap) (locs1 : List Loc), t.heap = H1 → s.vm.Alike t.vm → post u → B u t → H.size ≤ H1.size → (∀ q : Nat, q < H.size → ¬ A1 q → H1[q]? = H[q]?) → va_S A0 H0 H1 locs1 → W p l e R s m args below meth c H1 locs1 (cells + mc) (slots + ms) Q (F0 m (pc + 3) ls (rest))) : W p l e R s m args below meth c H locs cells slots Q (F0 m pc ls st0) := by
  intro T hT X
  rcases hr T hT X with ⟨v, st₀, t, T', L, h0, X', hL, e1, e2, ⟨⟨u, hv, hp, hb⟩, hF⟩, st⟩ | ⟨q, st₀, t, T', L, E, ce, h0, X', hL, e1, e2, ⟨u, hp, hb, hF⟩, hce, hcv, hcl, st⟩
  · cases hv
    obtain ⟨k1, k2, k3⟩ := vx_keep h0 e1 hS hA hf hL hF
    obtain ⟨t2, a1, b1⟩ := kk u t T'.heap (locs ++ L) e1.symm (by rw [← e2]; exact X'.warmed.alike) hp hb k1 k2 k3 T' rfl X'
    exact ⟨t2, st t2 a1, b1⟩
  · obtain ⟨k1, k2, k3⟩ := vx_keep h0 e1 hS hAX hf hL hF
    obtain ⟨t2, a1, b1⟩ := kx E ce q u t T'.heap (locs ++ L) e1.symm (by rw [← e2]; exact X'.warmed.alike) hp hb k1 k2 k3 (by rw [e1]; exact hce) hcv hcl T' rfl X'
    exact ⟨t2, st.trans a1, b1⟩
/-- caught by the row x of this method's table; the rows ahead don't take it -/
theorem vx_catch {own name : String} {E : String} {ce : Cell} {q : Addr} (hown : s.vm.findClass own = some m.cls) (pre : List ExceptionTableEntry) (x : ExceptionTableEntry) (suf : List ExceptionTableEntry) (hsplit : c.exceptionTable.toList = pre ++ x :: suf)
    (hpass : ∀ z ∈ pre, covers z pc = false ∨ (z.catchType ≠ 0 ∧ ∃ nm : String, (Cond.classLink own z.catchType nm).before args s = true ∧ va_Nc E nm s)) (hx : covers x pc = true) (h0 : x.catchType ≠ 0)
    (hlink : (Cond.classLink own x.catchType name).before args s = true) (hcast : (Cond.castable E name).before args s = true) (hcell : H[q]? = some ce) (hv : ce.vm = .none) (hcl : s.vm.findClass E = some ce.cls)
    (kk : W p l e R s m args below meth c H locs cells slots Q (F0 m x.handlerPc ls [.ref q])) : vx_W p l e R s m args below meth c H locs cells slots Q (F0 m pc ls rest) q := by
  intro T hT X
  have hpl : e.platform.magicAccessors = ({} : Platform).magicAccessors := by rw [X.admits.platform]
  obtain ⟨c3, c4, hc3, hc4, hasg⟩ := Cond.castable_spec hcast
  cases Option.some.inj (hc3.symm.trans hcl)
  obtain ⟨c5, hc5, hcl5⟩ := Cond.classLink_spec hown hlink e.platform hpl
  cases Option.some.inj (hc4.symm.trans hc5)
  obtain ⟨vm', X', st⟩ := X.thenCaughtThrough q (g := F0 m pc ls rest) rfl (Steps.refl _) (by rw [hT]; exact hcell) (by rw [hv]; rfl) (by obtain ⟨k9, h9, -⟩ := Vm.findClass_spec hcl; exact ⟨k9, h9⟩) pre x suf hsplit
    (fun z hz => by
      rcases hpass z hz with h | ⟨hz0, nm, hl1, hn1⟩
      · exact Or.inl h
      · obtain ⟨c6, hc6, hcl6⟩ := Cond.classLink_spec hown hl1 e.platform hpl
        obtain ⟨a8, b8, h1, h2, h3⟩ := hn1
        cases Option.some.inj (h1.symm.trans hcl)
        cases Option.some.inj (h2.symm.trans hc6)
        exact Or.inr ⟨hz0, _, hcl6, h3⟩) hx (Or.inr ⟨h0, c4, hcl5, hasg⟩)
  obtain ⟨t, a1, b1⟩ := kk (T.setVm vm') hT X'
  exact ⟨t, st.trans a1, b1⟩
end Rows
section Ends
variable {p : Program} {l : Launch} {e : Env} {R : Room} {s : State} {m : MethodId} {args : Array Value} {below : List Frame} {meth : Method} {c : Code} {H : Heap} {locs : List Loc} {cells slots : Nat} {Q : State → Prop}
variable {mc ms : Nat} {free : Addr → Prop} {A0 A1 : Nat → Prop} {H0 : Heap} {a : Array Value} {ls : Array Slot} {st0 rest : List Value}
variable {Qc : Array Value → State → Outcome → State → Prop} {XC : String → State → State → Prop}
/-- what a body that may throw owes at its end -/
def vx_MQ (below : List Frame) (Qc : Array Value → State → Outcome → State → Prop) (XC : String → State → State → Prop) (a : Array Value) (s : State) (mc ms : Nat) (free : Addr → Prop) : State → Prop := fun t =>
  ∃ o, t.status = .running ∧ Ended t below o ∧ vx_Q Qc XC mc ms free a s o t
theorem vx_ret {g : JFrame} {mc ms : Nat} (k : W p l e R s m args below meth c H locs cells slots (MQ below Qc args s mc ms free) g) : W p l e R s m args below meth c H locs cells slots (vx_MQ below Qc XC args s mc ms free) g := by
  intro T hT X
  obtain ⟨t, a1, o, b1, b2, b3, b4⟩ := k T hT X
  exact ⟨t, a1, o, b1, b2, Or.inl ⟨b3, b4⟩⟩
/-- not caught here: it goes on to the caller -/
theorem vx_widen {g : JFrame} {q : Addr} {k n : Nat} (h1 : cells ≤ k) (h2 : slots ≤ n) (kk : vx_W p l e R s m args below meth c H locs k n Q g q) : vx_W p l e R s m args below meth c H locs cells slots Q g q := fun T hT X => kk T hT (stand_widen X h1 h2)
theorem vx_out {pc : Nat} {E : String} {ce : Cell} {q : Addr} {mc ms : Nat} (hout : ∀ x ∈ c.exceptionTable.toList, covers x pc = false) (hlocks : meth.locks = false) (hcell : H[q]? = some ce) (hv : ce.vm = .none) (hcl : s.vm.findClass E = some ce.cls)
    (hx : ∀ t : State, t.heap = H → s.vm.Alike t.vm → XC E s t) (hf : ∀ z ∈ locs, free z.base) (hc : cells ≤ mc) (hs : slots ≤ ms) :
    vx_W p l e R s m args below meth c H locs cells slots (vx_MQ below Qc XC args s mc ms free) (F0 m pc ls rest) q := by
  intro T hT X
  obtain ⟨st1, hrun, hend, hW, hsm⟩ := X.leaveThrown q (g := F0 m pc ls rest) rfl rfl rfl hout hlocks
  have hcell9 : (T.setFrames (.throwing q :: below)).heap[q]? = some ce := by
    show T.heap[q]? = some ce
    rw [hT]; exact hcell
  exact ⟨_, st1, .threw q, hrun, hend, Or.inr ⟨q, rfl, E, ce, locs, hx _ hT hW.alike, hcell9, hv, hcl, hW, hsm.mono hc hs, hf⟩⟩
theorem vx_frame {U : State} {k n : Nat} (h : s.sameButNew ({ U with vm := s.vm } : State) locs k n) : s.heap.size ≤ U.heap.size ∧ ∀ q : Nat, q < s.heap.size → (∀ z ∈ locs, z.base ≠ q) → U.heap[q]? = s.heap[q]? := by
  obtain ⟨-, h2, -, -, -, h6⟩ := h
  refine ⟨h2, fun q hq hz => ?_⟩
  obtain ⟨c9, e1, e2, e3, e4⟩ := h6 q _ (Array.getElem?_eq_getElem hq)
  have hs : c9.slots = (s.heap[q]).slots := Array.ext_getElem? fun i => e4 i fun hm => hz _ hm rfl
  have h9 : c9 = s.heap[q] := by
    rw [hs] at e2
    exact e2
  have e5 : U.heap[q]? = some c9 := e1
  rw [e5, h9, Array.getElem?_eq_getElem hq]
/-- the words of a throw but the four that speak of the heap -/
def vx_no (w : Cond) : Bool := decide (w ≠ .isRef (.static Bundle.tN "UNASSIGNED_STACK" Bundle.steD)) && decide (w ≠ .isRef (.static Bundle.tN "SUPPRESSED_SENTINEL" Bundle.listD)) && decide (w ≠ .laysStatic Bundle.tN "UNASSIGNED_STACK" Bundle.steD) && decide (w ≠ .laysStatic Bundle.tN "SUPPRESSED_SENTINEL" Bundle.listD)
def vx_at0 (own : String) (ic : Nat) (X : String) (names : List String) : List Cond := (Bundle.ownAtoms0 own ic X names).filter vx_no
def vx_atS (own : String) (ic : Nat) (X : String) (names : List String) : List Cond := (Bundle.ownAtoms own ic X names).filter vx_no
/-- a word that the tables alone decide, or a good one -/
def vx_ot (w : Cond) : Bool := w.onTables || goodWord w
theorem vx_ot_at {args a' : Array Value} {s U : State} {w : Cond} (hW : s.WarmedH U.vm) (hvm : s.vm = U.vm) (hg : vx_ot w = true) (h : w.before args s = true) : w.before a' U = true := by
  simp only [vx_ot, Bool.or_eq_true] at hg
  rcases hg with hg | hg
  · exact va_tabs hg hvm h
  · exact word_at hW (good_of_word hg) h
/-- a list's words: the good ones out of the method's own list, the others by premises of their own -/
theorem vx_hat {args : Array Value} {s : State} {L B : List Cond} (h1 : ∀ w ∈ L.filter goodWord, w.before args s = true) (h2 : ∀ w ∈ L.filter (fun w => !goodWord w), w ∈ B) (h3 : ∀ w ∈ B, w.before args s = true) : ∀ w ∈ L, w.before args s = true := by
  intro w hw
  by_cases g : goodWord w = true
  · exact h1 w (List.mem_filter.mpr ⟨hw, g⟩)
  · refine h3 w (h2 w (List.mem_filter.mpr ⟨hw, ?_⟩))
    show (!goodWord w) = true
    cases hgw : goodWord w
    · rfl
    · exact absurd hgw g
theorem vx_c {args : Array Value} {s : State} {w : Cond} {B : List Cond} (h : w.before args s = true) (t : ∀ w ∈ B, w.before args s = true) : ∀ w' ∈ w :: B, w'.before args s = true := fun w' h' => (List.mem_cons.mp h').elim (fun e => by rw [e]; exact h) (t w')
theorem vx_n {args : Array Value} {s : State} : ∀ w ∈ ([] : List Cond), w.before args s = true := fun _ h => nomatch h
theorem vx_own {args : Array Value} {s : State} {L : List Cond} (h1 : ∀ w ∈ L.filter vx_no, w.before args s = true)
    (hU : (Cond.isRef (.static Bundle.tN "UNASSIGNED_STACK" Bundle.steD)).before args s = true) (hN : (Cond.isRef (.static Bundle.tN "SUPPRESSED_SENTINEL" Bundle.listD)).before args s = true)
    (lU : (Cond.laysStatic Bundle.tN "UNASSIGNED_STACK" Bundle.steD).before args s = true) (lN : (Cond.laysStatic Bundle.tN "SUPPRESSED_SENTINEL" Bundle.listD).before args s = true) : ∀ w ∈ L, w.before args s = true := by
  intro w hw
  by_cases e1 : w = .isRef (.static Bundle.tN "UNASSIGNED_STACK" Bundle.steD)
  · rw [e1]; exact hU
  · by_cases e2 : w = .isRef (.static Bundle.tN "SUPPRESSED_SENTINEL" Bundle.listD)
    · rw [e2]; exact hN
    · by_cases e3 : w = .laysStatic Bundle.tN "UNASSIGNED_STACK" Bundle.steD
      · rw [e3]; exact lU
      · by_cases e4 : w = .laysStatic Bundle.tN "SUPPRESSED_SENTINEL" Bundle.listD
        · rw [e4]; exact lN
        · exact h1 w (List.mem_filter.mpr ⟨hw, by unfold vx_no; rw [decide_eq_true e1, decide_eq_true e2, decide_eq_true e3, decide_eq_true e4]; rfl⟩)
/-- where a static field lies, its class's statics cell in H -/
def vx_L (C n d : String) (A : Nat → Prop) (U : State) (H : Heap) : Prop := ∃ (c : ClassId) (k : Class) (i : Nat) (f : Field) (a : Nat) (cell : Cell), U.vm.findClass C = some c ∧ U.fieldFound? C n d = some (c, k, i, f) ∧ f.isStatic = true ∧ k.statics = some a ∧ H[a]? = some cell ∧ cell.vm.isStatics = true ∧ cell.cls = c ∧ f.slot < cell.slots.size ∧ k.staticTypes[f.slot]? = some f.type ∧ ¬ A a
theorem vx_L.moved {C n d : String} {A : Nat → Prop} {u U : State} {H : Heap} (hvm : u.vm.Alike U.vm) (h : vx_L C n d A u H) : vx_L C n d A U H := by
  obtain ⟨c, k, i, f, a, cell, h1, h2, h3, h4, h5, h6, h7, h8, h9, h10⟩ := h
  obtain ⟨k', hi', he⟩ := State.fieldFound?_setVm hvm h2
  exact ⟨c, k', i, f, a, cell, by rw [hvm.findClass]; exact h1, hi', h3, by rw [he]; exact h4, h5, h6, h7, h8, by rw [he]; exact h9, h10⟩
theorem vx_L.kept {C n d : String} {A : Nat → Prop} {U : State} {H H1 : Heap} (h : vx_L C n d A U H) (hq : ∀ a : Nat, a < H.size → ¬ A a → H1[a]? = H[a]?) : vx_L C n d A U H1 := by
  obtain ⟨c, k, i, f, a, cell, h1, h2, h3, h4, h5, h6, h7, h8, h9, h10⟩ := h
  exact ⟨c, k, i, f, a, cell, h1, h2, h3, h4, by rw [hq a (Array.getElem?_eq_some_iff.mp h5).1 h10]; exact h5, h6, h7, h8, h9, h10⟩
theorem vx_L.narrow {C n d : String} {A B : Nat → Prop} {U : State} {H : Heap} (h : vx_L C n d A U H) (hAB : ∀ q, B q → A q) : vx_L C n d B U H := by
  obtain ⟨c, k, i, f, a, cell, h1, h2, h3, h4, h5, h6, h7, h8, h9, h10⟩ := h
  exact ⟨c, k, i, f, a, cell, h1, h2, h3, h4, h5, h6, h7, h8, h9, fun z => h10 (hAB _ z)⟩
theorem vx_L.word {C n d : String} {A : Nat → Prop} {s : State} {args : Array Value} (h : vx_L C n d A s s.heap) : (Cond.laysStatic C n d).before args s = true := by
  obtain ⟨c, k, i, f, a, cell, h1, h2, h3, h4, h5, h6, h7, h8, h9, -⟩ := h
  show (Cond.laysStatic C n d).holds args s none s [] = true
  exact Cond.laysStatic_of h1 h2 h3 h4 h5 h6 h7 h8 h9
/-- .. and what it holds: null or some reference -/
def vx_Zq (C n d : String) (A : Nat → Prop) (U : State) (H : Heap) : Prop := va_Zq C n d A U H ∧ vx_L C n d A U H
theorem vx_Zq.moved {C n d : String} {A : Nat → Prop} {u U : State} {H : Heap} (hvm : u.vm.Alike U.vm) (h : vx_Zq C n d A u H) : vx_Zq C n d A U H := ⟨va_Zq.moved hvm h.1, vx_L.moved hvm h.2⟩
theorem vx_Zq.kept {C n d : String} {A : Nat → Prop} {U : State} {H H1 : Heap} (h : vx_Zq C n d A U H) (hq : ∀ a : Nat, a < H.size → ¬ A a → H1[a]? = H[a]?) : vx_Zq C n d A U H1 := ⟨va_Zq.kept h.1 hq, vx_L.kept h.2 hq⟩
theorem vx_Zq.narrow {C n d : String} {A B : Nat → Prop} {U : State} {H : Heap} (h : vx_Zq C n d A U H) (hAB : ∀ q, B q → A q) : vx_Zq C n d B U H := ⟨va_Zq.narrow h.1 hAB, vx_L.narrow h.2 hAB⟩
theorem vx_Zqof {args : Array Value} {s : State} {C n d : String} {A : Nat → Prop} (hl : (Cond.laysStatic C n d).before args s = true) (hini : (Cond.initialized C).before args s = true) (h : (Cond.isRef (.static C n d)).before args s = true) (hA : ∀ a : Nat, a < s.heap.size → ¬ A a) : vx_Zq C n d A s s.heap := by
  refine ⟨va_Zqof hl hini h hA, ?_⟩
  obtain ⟨c, k, i, f, a, cell, h1, h2, h3, h4, h5, h6, h7, h8, h9⟩ := Cond.laysStatic_spec hl
  exact ⟨c, k, i, f, a, cell, h1, h2, h3, h4, h5, h6, h7, h8, h9, hA a (Array.getElem?_eq_some_iff.mp h5).1⟩
theorem vx_isRef {C n d : String} {v : Value} {A : Nat → Prop} {s : State} {args : Array Value} (h : va_Z C n d v A s s.heap) (hv : v.isRef = true) : (Cond.isRef (.static C n d)).before args s = true := by
  obtain ⟨cf, kf, fi, f, a, cell, h1, h2, h3, h4, h5, h6, h7, -⟩ := h
  have he : (Term.static C n d).eval args s none [] s = some v := by
    simp [Term.eval, State.fieldNamed?, h1, h2, h4, h5, h6, h7]
  simp only [Cond.before, Cond.holds, Cond.value, he]
  cases v <;> simp_all [Value.isRef]
theorem vx_isRefq {C n d : String} {A : Nat → Prop} {s : State} {args : Array Value} (h : va_Zq C n d A s s.heap) : (Cond.isRef (.static C n d)).before args s = true := by
  rcases h with h | ⟨t, h⟩
  · exact vx_isRef h rfl
  · exact vx_isRef h rfl
/-- the same frame, seen from here: as if the method were called anew in this heap -/
theorem vx_rebase {T : State} (X : Stand p l e R s m args below meth c T locs cells slots) {R' : Room} (hf : R'.frames ≤ R.frames) (hl : R'.locals ≤ R.locals) (hc : cells + R'.cells ≤ R.cells) (hs : slots + R'.slots ≤ R.slots) :
    Stand p l e R' ((T.setVm s.vm).setFrames (.invoking m args :: below)) m args below meth c T [] 0 0 := by
  have htop : (T.setVm s.vm).topJava?.isSome := X.here.top
  have hF : ((T.setVm s.vm).setFrames (.invoking m args :: below)).frames = .invoking m args :: below := State.frames_setFrames _ (State.cur_lt_of_top htop)
  obtain ⟨g₀, hg0⟩ := Option.isSome_iff_exists.mp htop
  obtain ⟨r, hr⟩ := State.topJava?_eq_some.mp hg0
  have hl9 : e.platform.stackLimits (T.setVm s.vm).me = e.platform.stackLimits s.me := X.limits
  have hb9 : (T.setVm s.vm).me.stackBytes = s.me.stackBytes := X.bytes
  refine ⟨X.admits, X.cas, X.clock, hF, ?_, X.hears, X.method, X.code, X.here, X.tail, X.warmed, ?_, ?_, ?_⟩
  · have h := X.room
    have hU : ((T.setVm s.vm).setFrames (.invoking m args :: below)).localsInUse = s.localsInUse := by
      rw [State.localsInUse_invoking hF (meth := meth) (c := c) X.method X.code, State.localsInUse_invoking X.frames X.method X.code]
    simp only [State.hasRoom, Bool.and_eq_true, decide_eq_true_eq] at h ⊢
    obtain ⟨⟨⟨⟨h1, h2, h3, h4, h5, h6⟩, h7⟩, h8⟩, h9⟩ := h
    rw [X.frames, List.length_cons] at h2 h3
    have q1 := X.heapSize
    have q2 := X.used
    simp only [hF, hU, List.length_cons, State.stackLimits_setFrames, State.stackBytes_setFrames, hl9, hb9]
    refine ⟨⟨⟨⟨by omega, by omega, by omega, by omega, by omega, h6⟩, ?_⟩, ?_⟩, X.book⟩
    · show T.heap.size + R'.cells ≤ e.platform.maxCells
      omega
    · show T.slotsUsed + R'.slots ≤ e.platform.maxSlots
      omega
  · rw [State.stackLimits_setFrames]; rfl
  · rw [State.stackBytes_setFrames]; rfl
  · refine ⟨?_, Nat.le_refl _, Nat.le_refl _, ?_, ?_, fun a c9 h9 => ⟨c9, h9, rfl, rfl, fun _ _ => rfl⟩⟩
    · obtain ⟨t, ht, -⟩ := State.frames_cons hr
      show T.setVm s.vm = { ((T.setVm s.vm).setFrames (.invoking m args :: below)).setFrames (T.setVm s.vm).frames with heap := T.heap, slotsUsed := T.slotsUsed }
      rw [State.setFrames_setFrames, State.setFrames_self ht]
      rfl
    · show T.slotsUsed = T.slotsUsed + ((T.heap.toList.drop T.heap.size).map (·.slots.size)).sum
      rw [List.drop_eq_nil_of_le (Nat.le_of_eq Array.length_toList)]
      rfl
    · show ((T.heap.toList.drop T.heap.size).map (·.slots.size)).sum ≤ 0
      rw [List.drop_eq_nil_of_le (Nat.le_of_eq Array.length_toList)]
      exact Nat.le_refl _
/-- 'throw new E()': new; dup; invokespecial; athrow -/
theorem vx_throw0 {cc : ByteArray} {pc : Nat} (hexec : p.tables.exec = Jvm.exec) (hb : c.code = cc) (hl : l.stackTraces = false) {own cls : String} {names : List String} {ik ic mc ms : Nat} {A : Nat → Prop}
    (hown : s.vm.findClass own = some m.cls) (hcls : Bundle.fit cls = true) (hnames : ∀ n ∈ names, Bundle.fit n = true)
    (hk : (Cond.classLink own ik cls).before args s = true) (hini : (Cond.initialized cls).before args s = true) (hat : ∀ w ∈ vx_at0 own ic cls names, w.before args s = true)
    (hgood : ∀ w ∈ Cond.classLink own ik cls :: Cond.initialized cls :: vx_at0 own ic cls names, vx_ot w = true)
    (hU : vx_Zq Bundle.tN "UNASSIGNED_STACK" Bundle.steD A s s.heap) (hN : vx_Zq Bundle.tN "SUPPRESSED_SENTINEL" Bundle.listD A s s.heap) (hS : va_S A s.heap H locs) (hsize : ls.size = c.maxLocals)
    (d0 : decode cc pc = .ok (.new ik, 3)) (d3 : decode cc (pc + 3) = .ok (.dup, 1)) (d4 : decode cc (pc + 4) = .ok (.invokespecial ic, 3)) (d7 : decode cc (pc + 7) = .ok (.athrow, 1))
    (hout : ∀ x ∈ c.exceptionTable.toList, covers x (pc + 7) = false)
    (hRframes : names.length + 3 < R.frames) (hRlocals : (rest.map fun v => v.category).sum + (13 * (names.length + 1) + 42) ≤ R.locals) (hRcells : cells + 1 ≤ R.cells) (hRslots : slots + 6 ≤ R.slots) (hlocks : meth.locks = false)
    (hx : ∀ t : State, s.vm.Alike t.vm → H.size ≤ t.heap.size → (∀ q : Nat, q < H.size → t.heap[q]? = H[q]?) → XC cls s t)
    (hf : ∀ z ∈ locs, free z.base) (hc : cells + 1 ≤ mc) (hs : slots + 6 ≤ ms) :
    W p l e R s m args below meth c H locs cells slots (vx_MQ below Qc XC args s mc ms free) (F0 m pc ls rest) := by
  intro T hT X
  have htr : e.platform.stackTraces = false := (show e.platform.stackTraces = l.stackTraces by rw [X.admits.platform]).trans hl
  have Y := vx_rebase X (R' := { frames := R.frames, locals := R.locals, cells := 1, slots := 6 }) (Nat.le_refl _) (Nat.le_refl _) hRcells hRslots
  obtain ⟨s', hA⟩ : ∃ z, z = (T.setVm s.vm).setFrames (.invoking m args :: below) := ⟨_, rfl⟩
  rw [← hA] at Y
  have hvm : s'.vm = s.vm := by rw [hA]; rfl
  have hhp : s'.heap = H := by rw [hA]; exact hT
  have hW0 : s.WarmedH s'.vm := by rw [hvm]; exact State.WarmedH.refl s
  have hat' : ∀ w ∈ vx_at0 own ic cls names, w.before args s' = true := fun w hw => vx_ot_at hW0 hvm.symm (hgood w (List.mem_cons_of_mem _ (List.mem_cons_of_mem _ hw))) (hat w hw)
  have hk' : (Cond.classLink own ik cls).before args s' = true := vx_ot_at hW0 hvm.symm (hgood _ List.mem_cons_self) hk
  have hini' : (Cond.initialized cls).before args s' = true := vx_ot_at hW0 hvm.symm (hgood _ (List.mem_cons_of_mem _ List.mem_cons_self)) hini
  have hU' : vx_Zq Bundle.tN "UNASSIGNED_STACK" Bundle.steD A s' s'.heap := by rw [hhp]; exact vx_Zq.moved hW0.alike (hU.kept hS.2.1)
  have hN' : vx_Zq Bundle.tN "SUPPRESSED_SENTINEL" Bundle.listD A s' s'.heap := by rw [hhp]; exact vx_Zq.moved hW0.alike (hN.kept hS.2.1)
  have h : ∀ w ∈ Bundle.ownAtoms0 own ic cls names, w.before args s' = true := vx_own hat' (vx_isRefq hU'.1) (vx_isRefq hN'.1) hU'.2.word hN'.2.word
  have hown' : s'.vm.findClass own = some m.cls := by rw [hvm]; exact hown
  have hins : (Cond.instantiable cls 6).before args s' = true := h _ (by simp [Bundle.ownAtoms0])
  obtain ⟨vm₁, cX, kX, hfX, hkX, -, -, X₁, st1⟩ := Y.newCold hexec (own := own) (C := cls) (index := ik) (n := 6) hown' hk' hins hini'
    (g := F0 m pc ls rest) rfl (by rw [hb]; exact d0) (Nat.le_refl _) (Nat.le_refl _)
  generalize hT1 : (T.setVm vm₁).pushCell { cls := cX, slots := kX.instanceTypes.map defaultValue, vm := .none } = T1 at X₁ st1
  have hcat : (Value.ref T.heap.size).category = 1 := rfl
  have hcellA : T1.heap[T.heap.size]? = some (freshCell cX kX) := by rw [← hT1]; exact State.heap_pushCell_size _ _
  have d3' : decode c.code (pc + 3) = .ok (.dup, 1) := by rw [hb]; exact d3
  obtain ⟨U, hsteps, hrun, hend, hW, hsame, ce, hce, hO⟩ := X₁.ctorThrow0 hexec htr (own := own) (cls := cls) (names := names) (ic := ic) hown' hcls hnames h (fun x hx => nomatch hx) hfX hkX hcellA (by rw [hhp, hT]; exact Nat.le_refl _)
    (g := { method := m, pc := pc + 4, locals := ls, stack := .ref T.heap.size :: .ref T.heap.size :: rest, locked := none }) rfl hsize rfl rfl (rest := rest) rfl
    (by rw [hb]; exact d4) (by rw [hb]; exact d7) hout hRframes (by simp only [List.map_cons, List.sum_cons, hcat]; omega) hlocks
  obtain ⟨f1, f2⟩ := vx_frame hsame
  rw [hhp] at f1 f2
  have hWs : s.WarmedH U.vm := State.WarmedH.trans hW0 hW
  have hcl : s.vm.findClass cls = some ce.cls := by
    have h9 := hO.cls
    rw [hvm] at h9
    exact h9
  have hall : s.sameButNew ({ U with vm := s.vm } : State) locs mc ms := by
    subst hA
    obtain ⟨e1, e2⟩ := hsame
    rw [State.setFrames_setFrames] at e1
    have h2 : (T.setVm s.vm).sameButNew ({ U with vm := s.vm } : State) [] (0 + 1) (0 + 6) := ⟨e1, e2⟩
    have h3 := X.same.trans h2
    rw [List.append_nil] at h3
    exact h3.mono hc hs
  refine ⟨U, ?_, .threw T.heap.size, hrun, hend, Or.inr ⟨T.heap.size, rfl, cls, ce, locs, hx U hWs.alike f1 (fun q hq => f2 q hq (fun z hz => nomatch hz)), hce, hO.vm, hcl, hWs, hall, hf⟩⟩
  refine st1 _ ?_
  show Steps p.tables e below (T1.setTop { method := m, pc := pc + 3, locals := ls, stack := .ref T.heap.size :: rest, locked := none }) _
  jvm_step X₁.here [X₁.here.top, hexec, d3', Value.category]
  exact hsteps
/-- 'throw new E("text")': new; dup; ldc; invokespecial; athrow -/
theorem vx_throwS {cc : ByteArray} {pc : Nat} (hexec : p.tables.exec = Jvm.exec) (hb : c.code = cc) (hl : l.stackTraces = false) {own cls text : String} {names : List String} {ik is ic mc ms sa : Nat} {A : Nat → Prop}
    (hown : s.vm.findClass own = some m.cls) (hcls : Bundle.fit cls = true) (hnames : ∀ n ∈ names, Bundle.fit n = true)
    (hk : (Cond.classLink own ik cls).before args s = true) (hini : (Cond.initialized cls).before args s = true) (hstr : vk_R own is text sa s) (hat : ∀ w ∈ vx_atS own ic cls names, w.before args s = true)
    (hgood : ∀ w ∈ Cond.classLink own ik cls :: Cond.initialized cls :: vx_atS own ic cls names, vx_ot w = true)
    (hU : vx_Zq Bundle.tN "UNASSIGNED_STACK" Bundle.steD A s s.heap) (hN : vx_Zq Bundle.tN "SUPPRESSED_SENTINEL" Bundle.listD A s s.heap) (hS : va_S A s.heap H locs) (hsize : ls.size = c.maxLocals)
    (d0 : decode cc pc = .ok (.new ik, 3)) (d3 : decode cc (pc + 3) = .ok (.dup, 1)) (d4 : decode cc (pc + 4) = .ok (.ldc is, 2)) (d6 : decode cc (pc + 6) = .ok (.invokespecial ic, 3)) (d9 : decode cc (pc + 9) = .ok (.athrow, 1))
    (hout : ∀ x ∈ c.exceptionTable.toList, covers x (pc + 9) = false)
    (hRframes : names.length + 3 < R.frames) (hRlocals : (rest.map fun v => v.category).sum + (13 * (names.length + 1) + 43) ≤ R.locals) (hRcells : cells + 1 ≤ R.cells) (hRslots : slots + 6 ≤ R.slots) (hlocks : meth.locks = false)
    (hx : ∀ t : State, s.vm.Alike t.vm → H.size ≤ t.heap.size → (∀ q : Nat, q < H.size → t.heap[q]? = H[q]?) → XC cls s t)
    (hf : ∀ z ∈ locs, free z.base) (hc : cells + 1 ≤ mc) (hs : slots + 6 ≤ ms) :
    W p l e R s m args below meth c H locs cells slots (vx_MQ below Qc XC args s mc ms free) (F0 m pc ls rest) := by
  intro T hT X
  have htr : e.platform.stackTraces = false := (show e.platform.stackTraces = l.stackTraces by rw [X.admits.platform]).trans hl
  have Y := vx_rebase X (R' := { frames := R.frames, locals := R.locals, cells := 1, slots := 6 }) (Nat.le_refl _) (Nat.le_refl _) hRcells hRslots
  obtain ⟨s', hA⟩ : ∃ z, z = (T.setVm s.vm).setFrames (.invoking m args :: below) := ⟨_, rfl⟩
  rw [← hA] at Y
  have hvm : s'.vm = s.vm := by rw [hA]; rfl
  have hhp : s'.heap = H := by rw [hA]; exact hT
  have hW0 : s.WarmedH s'.vm := by rw [hvm]; exact State.WarmedH.refl s
  have hat' : ∀ w ∈ vx_atS own ic cls names, w.before args s' = true := fun w hw => vx_ot_at hW0 hvm.symm (hgood w (List.mem_cons_of_mem _ (List.mem_cons_of_mem _ hw))) (hat w hw)
  have hk' : (Cond.classLink own ik cls).before args s' = true := vx_ot_at hW0 hvm.symm (hgood _ List.mem_cons_self) hk
  have hini' : (Cond.initialized cls).before args s' = true := vx_ot_at hW0 hvm.symm (hgood _ (List.mem_cons_of_mem _ List.mem_cons_self)) hini
  have hU' : vx_Zq Bundle.tN "UNASSIGNED_STACK" Bundle.steD A s' s'.heap := by rw [hhp]; exact vx_Zq.moved hW0.alike (hU.kept hS.2.1)
  have hN' : vx_Zq Bundle.tN "SUPPRESSED_SENTINEL" Bundle.listD A s' s'.heap := by rw [hhp]; exact vx_Zq.moved hW0.alike (hN.kept hS.2.1)
  have h : ∀ w ∈ Bundle.ownAtoms own ic cls names, w.before args s' = true := vx_own hat' (vx_isRefq hU'.1) (vx_isRefq hN'.1) hU'.2.word hN'.2.word
  have hown' : s'.vm.findClass own = some m.cls := by rw [hvm]; exact hown
  have hins : (Cond.instantiable cls 6).before args s' = true := h _ (by simp [Bundle.ownAtoms])
  obtain ⟨vm₁, cX, kX, hfX, hkX, -, -, X₁, st1⟩ := Y.newCold hexec (own := own) (C := cls) (index := ik) (n := 6) hown' hk' hins hini'
    (g := F0 m pc ls rest) rfl (by rw [hb]; exact d0) (Nat.le_refl _) (Nat.le_refl _)
  generalize hT1 : (T.setVm vm₁).pushCell { cls := cX, slots := kX.instanceTypes.map defaultValue, vm := .none } = T1 at X₁ st1
  have hcat : (Value.ref T.heap.size).category = 1 := rfl
  have hcellA : T1.heap[T.heap.size]? = some (freshCell cX kX) := by rw [← hT1]; exact State.heap_pushCell_size _ _
  have d3' : decode c.code (pc + 3) = .ok (.dup, 1) := by rw [hb]; exact d3
  have d4' : decode c.code (pc + 4) = .ok (.ldc is, 2) := by rw [hb]; exact d4
  have hstr' : vk_R own is text sa s' := vk_R.warm hW0 hstr
  obtain ⟨U, hsteps, hrun, hend, hW, hsame, ce, hce, hO⟩ := X₁.ctorThrowS hexec htr (own := own) (cls := cls) (names := names) (ic := ic) hown' hcls hnames h (fun x hx => nomatch hx) hfX hkX hcellA (by rw [hhp, hT]; exact Nat.le_refl _) (msg := .ref sa) rfl
    (g := { method := m, pc := pc + 6, locals := ls, stack := .ref sa :: .ref T.heap.size :: .ref T.heap.size :: rest, locked := none }) rfl hsize rfl rfl (rest := rest) rfl
    (by rw [hb]; exact d6) (by rw [hb]; exact d9) hout hRframes (by simp only [List.map_cons, List.sum_cons, hcat]; omega) hlocks
  obtain ⟨f1, f2⟩ := vx_frame hsame
  rw [hhp] at f1 f2
  have hWs : s.WarmedH U.vm := State.WarmedH.trans hW0 hW
  have hcl : s.vm.findClass cls = some ce.cls := by
    have h9 := hO.cls
    rw [hvm] at h9
    exact h9
  have hall : s.sameButNew ({ U with vm := s.vm } : State) locs mc ms := by
    subst hA
    obtain ⟨e1, e2⟩ := hsame
    rw [State.setFrames_setFrames] at e1
    have h2 : (T.setVm s.vm).sameButNew ({ U with vm := s.vm } : State) [] (0 + 1) (0 + 6) := ⟨e1, e2⟩
    have h3 := X.same.trans h2
    rw [List.append_nil] at h3
    exact h3.mono hc hs
  refine ⟨U, ?_, .threw T.heap.size, hrun, hend, Or.inr ⟨T.heap.size, rfl, cls, ce, locs, hx U hWs.alike f1 (fun q hq => f2 q hq (fun z hz => nomatch hz)), hce, hO.vm, hcl, hWs, hall, hf⟩⟩
  refine st1 _ ?_
  show Steps p.tables e below (T1.setTop { method := m, pc := pc + 3, locals := ls, stack := .ref T.heap.size :: rest, locked := none }) _
  jvm_step X₁.here [X₁.here.top, hexec, d3', Value.category]
  exact X₁.ldcString hexec (own := own) (text := text) (index := is) (a := sa) hown' hstr'.1 hstr'.2
    (g := { method := m, pc := pc + 4, locals := ls, stack := .ref T.heap.size :: .ref T.heap.size :: rest, locked := none }) rfl d4' _ hsteps
/-- 'throw new E("text")', the text by a wide index -/
theorem vx_throwSW {cc : ByteArray} {pc : Nat} (hexec : p.tables.exec = Jvm.exec) (hb : c.code = cc) (hl : l.stackTraces = false) {own cls text : String} {names : List String} {ik is ic mc ms sa : Nat} {A : Nat → Prop}
    (hown : s.vm.findClass own = some m.cls) (hcls : Bundle.fit cls = true) (hnames : ∀ n ∈ names, Bundle.fit n = true)
    (hk : (Cond.classLink own ik cls).before args s = true) (hini : (Cond.initialized cls).before args s = true) (hstr : vk_R own is text sa s) (hat : ∀ w ∈ vx_atS own ic cls names, w.before args s = true)
    (hgood : ∀ w ∈ Cond.classLink own ik cls :: Cond.initialized cls :: vx_atS own ic cls names, vx_ot w = true)
    (hU : vx_Zq Bundle.tN "UNASSIGNED_STACK" Bundle.steD A s s.heap) (hN : vx_Zq Bundle.tN "SUPPRESSED_SENTINEL" Bundle.listD A s s.heap) (hS : va_S A s.heap H locs) (hsize : ls.size = c.maxLocals)
    (d0 : decode cc pc = .ok (.new ik, 3)) (d3 : decode cc (pc + 3) = .ok (.dup, 1)) (d4 : decode cc (pc + 4) = .ok (.ldc_w is, 3)) (d7 : decode cc (pc + 7) = .ok (.invokespecial ic, 3)) (d10 : decode cc (pc + 10) = .ok (.athrow, 1))
    (hout : ∀ x ∈ c.exceptionTable.toList, covers x (pc + 10) = false)
    (hRframes : names.length + 3 < R.frames) (hRlocals : (rest.map fun v => v.category).sum + (13 * (names.length + 1) + 43) ≤ R.locals) (hRcells : cells + 1 ≤ R.cells) (hRslots : slots + 6 ≤ R.slots) (hlocks : meth.locks = false)
    (hx : ∀ t : State, s.vm.Alike t.vm → H.size ≤ t.heap.size → (∀ q : Nat, q < H.size → t.heap[q]? = H[q]?) → XC cls s t)
    (hf : ∀ z ∈ locs, free z.base) (hc : cells + 1 ≤ mc) (hs : slots + 6 ≤ ms) :
    W p l e R s m args below meth c H locs cells slots (vx_MQ below Qc XC args s mc ms free) (F0 m pc ls rest) := by
  intro T hT X
  have htr : e.platform.stackTraces = false := (show e.platform.stackTraces = l.stackTraces by rw [X.admits.platform]).trans hl
  have Y := vx_rebase X (R' := { frames := R.frames, locals := R.locals, cells := 1, slots := 6 }) (Nat.le_refl _) (Nat.le_refl _) hRcells hRslots
  obtain ⟨s', hA⟩ : ∃ z, z = (T.setVm s.vm).setFrames (.invoking m args :: below) := ⟨_, rfl⟩
  rw [← hA] at Y
  have hvm : s'.vm = s.vm := by rw [hA]; rfl
  have hhp : s'.heap = H := by rw [hA]; exact hT
  have hW0 : s.WarmedH s'.vm := by rw [hvm]; exact State.WarmedH.refl s
  have hat' : ∀ w ∈ vx_atS own ic cls names, w.before args s' = true := fun w hw => vx_ot_at hW0 hvm.symm (hgood w (List.mem_cons_of_mem _ (List.mem_cons_of_mem _ hw))) (hat w hw)
  have hk' : (Cond.classLink own ik cls).before args s' = true := vx_ot_at hW0 hvm.symm (hgood _ List.mem_cons_self) hk
  have hini' : (Cond.initialized cls).before args s' = true := vx_ot_at hW0 hvm.symm (hgood _ (List.mem_cons_of_mem _ List.mem_cons_self)) hini
  have hU' : vx_Zq Bundle.tN "UNASSIGNED_STACK" Bundle.steD A s' s'.heap := by rw [hhp]; exact vx_Zq.moved hW0.alike (hU.kept hS.2.1)
  have hN' : vx_Zq Bundle.tN "SUPPRESSED_SENTINEL" Bundle.listD A s' s'.heap := by rw [hhp]; exact vx_Zq.moved hW0.alike (hN.kept hS.2.1)
  have h : ∀ w ∈ Bundle.ownAtoms own ic cls names, w.before args s' = true := vx_own hat' (vx_isRefq hU'.1) (vx_isRefq hN'.1) hU'.2.word hN'.2.word
  have hown' : s'.vm.findClass own = some m.cls := by rw [hvm]; exact hown
  have hins : (Cond.instantiable cls 6).before args s' = true := h _ (by simp [Bundle.ownAtoms])
  obtain ⟨vm₁, cX, kX, hfX, hkX, -, -, X₁, st1⟩ := Y.newCold hexec (own := own) (C := cls) (index := ik) (n := 6) hown' hk' hins hini'
    (g := F0 m pc ls rest) rfl (by rw [hb]; exact d0) (Nat.le_refl _) (Nat.le_refl _)
  generalize hT1 : (T.setVm vm₁).pushCell { cls := cX, slots := kX.instanceTypes.map defaultValue, vm := .none } = T1 at X₁ st1
  have hcat : (Value.ref T.heap.size).category = 1 := rfl
  have hcellA : T1.heap[T.heap.size]? = some (freshCell cX kX) := by rw [← hT1]; exact State.heap_pushCell_size _ _
  have d3' : decode c.code (pc + 3) = .ok (.dup, 1) := by rw [hb]; exact d3
  have d4' : decode c.code (pc + 4) = .ok (.ldc_w is, 3) := by rw [hb]; exact d4
  have hstr' : vk_R own is text sa s' := vk_R.warm hW0 hstr
  obtain ⟨U, hsteps, hrun, hend, hW, hsame, ce, hce, hO⟩ := X₁.ctorThrowS hexec htr (own := own) (cls := cls) (names := names) (ic := ic) hown' hcls hnames h (fun x hx => nomatch hx) hfX hkX hcellA (by rw [hhp, hT]; exact Nat.le_refl _) (msg := .ref sa) rfl
    (g := { method := m, pc := pc + 7, locals := ls, stack := .ref sa :: .ref T.heap.size :: .ref T.heap.size :: rest, locked := none }) rfl hsize rfl rfl (rest := rest) rfl
    (by rw [hb]; exact d7) (by rw [hb]; exact d10) hout hRframes (by simp only [List.map_cons, List.sum_cons, hcat]; omega) hlocks
  obtain ⟨f1, f2⟩ := vx_frame hsame
  rw [hhp] at f1 f2
  have hWs : s.WarmedH U.vm := State.WarmedH.trans hW0 hW
  have hcl : s.vm.findClass cls = some ce.cls := by
    have h9 := hO.cls
    rw [hvm] at h9
    exact h9
  have hall : s.sameButNew ({ U with vm := s.vm } : State) locs mc ms := by
    subst hA
    obtain ⟨e1, e2⟩ := hsame
    rw [State.setFrames_setFrames] at e1
    have h2 : (T.setVm s.vm).sameButNew ({ U with vm := s.vm } : State) [] (0 + 1) (0 + 6) := ⟨e1, e2⟩
    have h3 := X.same.trans h2
    rw [List.append_nil] at h3
    exact h3.mono hc hs
  refine ⟨U, ?_, .threw T.heap.size, hrun, hend, Or.inr ⟨T.heap.size, rfl, cls, ce, locs, hx U hWs.alike f1 (fun q hq => f2 q hq (fun z hz => nomatch hz)), hce, hO.vm, hcl, hWs, hall, hf⟩⟩
  refine st1 _ ?_
  show Steps p.tables e below (T1.setTop { method := m, pc := pc + 3, locals := ls, stack := .ref T.heap.size :: rest, locked := none }) _
  jvm_step X₁.here [X₁.here.top, hexec, d3', Value.category]
  exact X₁.ldcStringW hexec (own := own) (text := text) (index := is) (a := sa) hown' hstr'.1 hstr'.2
    (g := { method := m, pc := pc + 4, locals := ls, stack := .ref T.heap.size :: .ref T.heap.size :: rest, locked := none }) rfl d4' _ hsteps
end Ends
section Bodies
variable {l : Launch}
theorem vx_ofW {y : MethodName} {ws ws' : List Cond} {rm : Room} {Pc : Array Value → State → Prop} {Qc : Array Value → State → Outcome → State → Prop} {XC : String → State → State → Prop} {mc ms : Nat} {free : Addr → Prop} {cc : ByteArray} {maxL : Nat} {ret : Option FieldType}
    (hy : plainName y.cls = true) (hw : ws = Cond.code y cc maxL ret :: ws')
    (body : ∀ p e s m args below meth c s₁, BodyLoose p l y (headSpec ws rm) cc maxL ret e s m args below meth c s₁ → c.maxLocals = maxL → (∀ x ∈ c.exceptionTable.toList, False) → Pc args s →
      W p l e (headSpec ws rm).room s m args below meth c s.heap [] 0 0 (vx_MQ below Qc XC args s mc ms free) (entryFrame m args maxL)) : vx_Met l y ws rm Pc Qc XC mc ms free := by
  refine MetFree.of_bodyS (code := cc) (maxLocals := maxL) (ret := ret) hy ?_ ?_
  · intro args s m h hn
    obtain ⟨meth, c, h1, h2, h3, h4, h5, h6, -, -⟩ := Cond.code_spec hn (atoms_spec (ws := ws) h _ (by rw [hw]; exact List.mem_cons_self))
    exact ⟨meth, c, h1, h2, h3, h4, h5, h6⟩
  · intro p e s m args below meth c s₁ B hml hP _
    have hh0 : s₁.heap = s.heap := by rw [B.state]; rfl
    have ht : ∀ x ∈ c.exceptionTable.toList, False := by
      obtain ⟨meth9, c9, h1, h2, -, -, -, -, h7, -⟩ := Cond.code_spec B.named (atoms_spec (ws := ws) B.pre _ (by rw [hw]; exact List.mem_cons_self))
      cases Option.some.inj (h1.symm.trans B.method)
      cases Option.some.inj (h2.symm.trans (Stand.of_body B).code)
      intro x hx
      rw [Array.isEmpty_iff.mp h7] at hx
      cases hx
    obtain ⟨t, a1, o, b1, b2, b3⟩ := body p e s m args below meth c s₁ B hml ht hP s₁ hh0 (Stand.of_body B)
    exact ⟨t, o, a1, b1, b2, b3⟩
/-- the table of a body with handlers -/
theorem vx_table {p : Program} {x y : MethodName} {S : Spec} {cc bytes : ByteArray} {maxL maxL' : Nat} {ret ret' : Option FieldType} {e : Env} {s s₁ : State} {m : MethodId} {args : Array Value} {below : List Frame} {meth : Method} {c : Code} {hh : List (Nat × Nat × Nat × Nat)}
    (B : BodyLoose p l y S cc maxL ret e s m args below meth c s₁) (h : (Cond.codeWith y bytes maxL' ret' hh).before args s = true) : c.exceptionTable.toList = tableOf hh := by
  obtain ⟨m9, meth9, c9, hn9, h1, h2, -, -, h6, -⟩ := Cond.codeWith_spec h
  cases Option.some.inj (hn9.symm.trans B.named)
  cases Option.some.inj (h1.symm.trans B.method)
  cases Option.some.inj (h2.symm.trans (Stand.of_body B).code)
  rw [← h6, table_eq]
end Bodies
end VXA
/-! ===== END ===== -/
/-! ===== BEGIN a static call of a method with an exception table ===== -/
section VXS
variable {p : Program} {l : Launch} {e : Env} {R : Room} {s : State} {m : MethodId} {args : Array Value} {below : List Frame} {meth : Method} {c : Code} {T : State} {H : Heap} {locs : List Loc} {cells slots : Nat}
abbrev vx_CSW (R : Room) (s : State) (args : Array Value) (own : String) (index : Nat) (y : MethodName) (bytes : ByteArray) (maxL : Nat) (ret : Option FieldType) (hh : List (Nat × Nat × Nat × Nat)) (ws : List Cond) (rm : Room) (mc ms n : Nat) : Prop :=
  (rm.cells = mc ∧ rm.slots = ms ∧ rm.frames + 1 ≤ R.frames ∧ 8 + (maxL + 11) + rm.locals ≤ R.locals ∧ (∀ w ∈ ws, ∀ (a' : Array Value) (U : State), s.WarmedH U.vm → w.before a' U = true) ∧ Cond.codeWith y bytes maxL ret hh ∈ ws) ∧
  (Cond.codeWith y bytes maxL ret hh).before args s = true ∧ (Cond.initialized y.cls).before args s = true ∧ (y.cls ≠ "java/lang/invoke/MethodHandle" ∧ y.cls ≠ "java/lang/invoke/VarHandle") ∧
  (∀ sig, parseMethodDescriptor y.desc = some sig → n = sig.parameters.length) ∧ (Cond.methodLink own index y).before args s = true ∧ (Cond.static y).before args s = true
theorem vx_cwSW {own : String} {index maxL mc ms : Nat} {y : MethodName} {bytes : ByteArray} {ret : Option FieldType} {hh : List (Nat × Nat × Nat × Nat)} {Ts ws ws' : List Cond} {rm : Room} (n : Nat) (ht : ∀ w ∈ Ts, w.before args s = true) (hT : GoodIn Ts (va_wsS own index y ws)) (hw : ws = Cond.codeWith y bytes maxL ret hh :: ws') (hrc : rm.cells = mc) (hrs : rm.slots = ms)
    (hd : y.cls ≠ "java/lang/invoke/MethodHandle" ∧ y.cls ≠ "java/lang/invoke/VarHandle" ∧ (parseMethodDescriptor y.desc).map (fun d => d.parameters.length) = some n) (hR : rm.frames + 1 ≤ R.frames ∧ 8 + (maxL + 11) + rm.locals ≤ R.locals) :
    vx_CSW R s args own index y bytes maxL ret hh ws rm mc ms n := by
  have ok : ∀ w ∈ va_wsS own index y ws, w.before args s = true := fun w h => ht w (hT w h).1
  have hG : GoodIn Ts ws := fun w h => hT w (by unfold va_wsS; exact List.mem_append_right _ h)
  have hc : Cond.codeWith y bytes maxL ret hh ∈ ws := by rw [hw]; exact List.mem_cons_self
  refine ⟨⟨hrc, hrs, hR.1, hR.2, pay_in ht hG, hc⟩, ht _ (hG _ hc).1, ok _ (by simp [va_wsS]), ⟨hd.1, hd.2.1⟩, fun sig h => ?_, ok _ (by simp [va_wsS]), ok _ (by simp [va_wsS])⟩
  have h2 := hd.2.2
  rw [h] at h2
  exact (Option.some.inj h2).symm
theorem vx_callSW (X : Stand p l e R s m args below meth c T locs cells slots) (hexec : p.tables.exec = Jvm.exec) {own : String} {index : Nat} {y : MethodName} {bytes : ByteArray} {maxL : Nat} {ret : Option FieldType} {hh : List (Nat × Nat × Nat × Nat)}
    (hown : s.vm.findClass own = some m.cls) (hlink : (Cond.methodLink own index y).before args s = true) (hstat : (Cond.static y).before args s = true) (hinit : (Cond.initialized y.cls).before args s = true)
    (hcode : (Cond.codeWith y bytes maxL ret hh).before args s = true) (hy : y.cls ≠ "java/lang/invoke/MethodHandle" ∧ y.cls ≠ "java/lang/invoke/VarHandle")
    {W9 : Nat} {Pre : Pt → Array Value → Prop} {Post : Pt → Array Value → Option Value → Pt → Prop} (hK : Back l R p e below s args y 3 W9 Pre Post)
    {g : JFrame} (hg : g.method = m) (hsize : g.locals.size = c.maxLocals) {argsL rest : List Value} (hlen : ∀ sig, parseMethodDescriptor y.desc = some sig → argsL.length = sig.parameters.length)
    (hstack : g.stack = argsL.reverse ++ rest) (hW : 2 * g.monitorRoom + (rest.map fun v => v.category).sum ≤ W9) (hdg : decode c.code g.pc = .ok (.invokestatic index, 3))
    (hpre : ∀ vm₁, s.WarmedH vm₁ → Pre ⟨T.setVm vm₁, locs, cells, slots⟩ argsL.toArray) :
    ∃ (v : Option Value) (vm₁ : Vm) (B : Pt), s.WarmedH vm₁ ∧ Stand p l e R s m args below meth c B.U B.locs B.cells B.slots ∧ Post ⟨T.setVm vm₁, locs, cells, slots⟩ argsL.toArray v B ∧
      ∀ target, Steps p.tables e below (B.U.setTop { g with pc := g.pc + 3, stack := v.toList ++ rest }) target → Steps p.tables e below (T.setTop g) target := by
  obtain ⟨mk, methM, cM, hnamed, hmethM, -, -, -, -, -, -, hsigM⟩ := Cond.codeWith_spec hcode
  have hstatic : methM.isStatic = true := Cond.static_spec hnamed hmethM hstat
  obtain ⟨kP, hkP, -⟩ := className_of_methodNamed hnamed
  have hinitP : kP.init = .initialized := Cond.initialized_spec (findClass_of_methodNamed hnamed) hkP hinit
  obtain ⟨vm₁, X₁, hstep₁⟩ := X.invokestatic hexec hown hlink hnamed hmethM hstatic hkP hinitP hy (g := g) hg (argsL := argsL) (rest := rest) (hlen _ hsigM) hstack hdg
  obtain ⟨v, B, X', hpost, hsteps⟩ := hK m meth c ⟨T.setVm vm₁, locs, cells, slots⟩ { g with stack := rest } (.invokestatic index) mk argsL.toArray X₁ hg hsize hdg hW (X₁.named hnamed) (hpre vm₁ X₁.warmed)
  exact ⟨v, vm₁, B, X₁.warmed, X', hpost, fun target h => hstep₁ _ fun acts => by rw [doInvoke_state]; exact hsteps.trans h⟩
theorem vx_runSW {y : MethodName} {bytes cc : ByteArray} {maxL nL mc ms n index : Nat} {ret : Option FieldType} {hh : List (Nat × Nat × Nat × Nat)} {ws : List Cond} {rm : Room} {Pc : Array Value → State → Prop} {Qc : Array Value → State → Outcome → State → Prop} {free : Addr → Prop} {Ts : List Cond} {own : String} {As rest : List Value} {g : JFrame}
    (S : CallFix p m c cc nL s args Ts own) (hM : Met l y ws rm Pc Qc mc ms free) (cw : vx_CSW R s args own index y bytes maxL ret hh ws rm mc ms n) (hp : PreS s H Pc As)
    (hg : g.method = m) (hn : As.length = n) (hsize : g.locals.size = nL) (hstack : g.stack = As.reverse ++ rest) (hW : 2 * g.monitorRoom + (rest.map fun v => v.category).sum ≤ 8) (hdg : decode cc g.pc = .ok (.invokestatic index, 3)) (hf : cells + mc ≤ R.cells ∧ slots + ms ≤ R.slots) :
    va_Run p l e R s m args below meth c H locs cells slots mc ms g rest (Qc As.toArray) (free) := by
  obtain ⟨⟨hrc, hrs, hfr, hlo, hws, hcw⟩, hcode, hini, hy, hlen, hl, hstt⟩ := cw
  have hK : Back l R p e below s args y 3 8 (PreOf R mc ms Pc) (PostOf Qc mc ms free) := va_backW (hh := hh) (bytes := bytes) (maxL := maxL) (ret := ret) hM hp.1 hrc hrs hfr hlo hws hcw (fun a' U hW => word_at hW (Or.inl (by first | rfl | simp [Cond.onTables, Cond.keeps, Cond.steady])) hini)
  obtain ⟨hx, hb, hml, ho, -⟩ := S
  intro T hT X
  obtain ⟨v, vm₁, ⟨U', l2, c2, s2⟩, hW₁, X', ⟨g', mk, t, L, e1, e2, hq, h1, hL, h2, h3⟩, st⟩ := vx_callSW X hx (hh := hh) (bytes := bytes) (maxL := maxL) (ret := ret) ho hl hstt hini hcode hy hK hg (hsize.trans hml.symm) (argsL := As) (rest := rest) (fun sig h => hn.trans (hlen sig h)) hstack hW (by rw [hb]; exact hdg)
    (fun vm₁ hW₁ => ⟨hf.1, hf.2, hp.2 (T.setVm vm₁) hT hW₁⟩)
  dsimp only [Pt.U, Pt.locs, Pt.cells, Pt.slots] at X' e1 e2 h1 h2 h3 st
  subst h1; subst h2; subst h3
  exact ⟨v, (T.setVm vm₁).calling g' mk As.toArray, t, U', L, hT, X', hL, e1, e2, hq, st⟩
/-- not caught here, past rows that name other classes: it goes on to the caller -/
theorem vx_outP {p : Program} {l : Launch} {e : Env} {R : Room} {s : State} {m : MethodId} {args : Array Value} {below : List Frame} {meth : Method} {c : Code} {H : Heap} {locs : List Loc} {cells slots : Nat} {free : Addr → Prop} {ls : Array Slot} {rest : List Value} {Qc : Array Value → State → Outcome → State → Prop} {XC : String → State → State → Prop}
    {pc : Nat} {own E : String} {ce : Cell} {q : Addr} {mc ms : Nat} (hown : s.vm.findClass own = some m.cls) (hlocks : meth.locks = false)
    (hpass : ∀ z ∈ c.exceptionTable.toList, covers z pc = false ∨ (z.catchType ≠ 0 ∧ ∃ nm : String, (Cond.classLink own z.catchType nm).before args s = true ∧ va_Nc E nm s)) (hcell : H[q]? = some ce) (hv : ce.vm = .none) (hcl : s.vm.findClass E = some ce.cls)
    (hx : ∀ t : State, t.heap = H → s.vm.Alike t.vm → XC E s t) (hf : ∀ z ∈ locs, free z.base) (hc : cells ≤ mc) (hs : slots ≤ ms) :
    vx_W p l e R s m args below meth c H locs cells slots (vx_MQ below Qc XC args s mc ms free) (F0 m pc ls rest) q := by
  intro T hT X
  have hpl : e.platform.magicAccessors = ({} : Platform).magicAccessors := by rw [X.admits.platform]
  obtain ⟨vm', hW', X', st⟩ := X.outThrough hlocks q (g := F0 m pc ls rest) rfl rfl rfl (cell := ce) (by rw [hT]; exact hcell) (by rw [hv]; rfl)
    (by obtain ⟨k9, h9, -⟩ := Vm.findClass_spec hcl; exact ⟨k9, h9⟩) (fun z hz => by
      rcases hpass z hz with h | ⟨hz0, nm, hl1, hn1⟩
      · exact Or.inl h
      · obtain ⟨c6, hc6, hcl6⟩ := Cond.classLink_spec hown hl1 e.platform hpl
        obtain ⟨a8, b8, h1, h2, h3⟩ := hn1
        cases Option.some.inj (h1.symm.trans hcl)
        cases Option.some.inj (h2.symm.trans hc6)
        exact Or.inr ⟨hz0, _, hcl6, h3⟩)
  obtain ⟨g₀, hfr⟩ := X'.frames_eq
  have hcell9 : ((T.setVm vm').setFrames (.throwing q :: below)).heap[q]? = some ce := by
    show T.heap[q]? = some ce
    rw [hT]; exact hcell
  have hend : Ended ((T.setVm vm').setFrames (.throwing q :: below)) below (.threw q) := State.frames_setFrames _ (State.cur_lt_of_frames hfr)
  refine ⟨(T.setVm vm').setFrames (.throwing q :: below), ?_, .threw q, X'.here.running, hend, Or.inr ⟨q, rfl, E, ce, locs, hx _ hT (X'.ends _).1.alike, hcell9, hv, hcl, (X'.ends _).1, (X'.ends _).2.mono hc hs, hf⟩⟩
  rw [X.pushThrowing_eq]
  exact st
/-- a thing of a world lies in the heap -/
theorem vx_lt {D : va_G} {cl : List vw_C} {ws : va_W} {H1 : Heap} (h : va_P D cl ws H1) {k : Nat} {q : Nat × va_E} (hk : ws[k]? = some q) : q.1 < H1.size := (h k q hk).lt
end VXS
/-! ===== END ===== -/
/-! ===== BEGIN methods with a table of their own: called by a name, returning or throwing ===== -/
section VXH
/-! vx_backW, vx_callVX, vx_callSX, vx_callVW, vx_runVW, vx_runVX, vx_runSX, vx_ofWH follow the same proofs as their sisters above (Free/Laws.lean, Shelf42/LK1.lean); vx_outP calls Shelf42/NT130.lean (outThrough). -/
section
variable {l : Launch} {R : Room} {p : Program} {e : Env} {below : List Frame} {s : State} {sargs : Array Value} {y : MethodName} {len W9 : Nat}
theorem vx_backW {ws : List Cond} {rm : Room} {Pc : Array Value → State → Prop} {Qc : Array Value → State → Outcome → State → Prop} {XC : String → State → State → Prop} {mc ms : Nat} {free : Addr → Prop} {bytes : ByteArray} {maxL : Nat} {ret : Option FieldType} {hh : List (Nat × Nat × Nat × Nat)}
    (hM : vx_Met l y ws rm Pc Qc XC mc ms free) (hblind : FrameBlind Pc) (hrc : rm.cells = mc) (hrs : rm.slots = ms)
    (hframes : rm.frames + 1 ≤ R.frames) (hlocals : W9 + (maxL + 11) + rm.locals ≤ R.locals)
    (hws : ∀ w ∈ ws, ∀ a' U, s.WarmedH U.vm → w.before a' U = true) (hcode : Cond.codeWith y bytes maxL ret hh ∈ ws) (hinit : ∀ a' U, s.WarmedH U.vm → (Cond.initialized y.cls).before a' U = true) :
    vx_Back l R p e below s sargs y len W9 (PreOf R mc ms Pc) (PostOf Qc mc ms free) (vx_Post XC mc ms free) := by
  intro m meth c A g ig mk a X hg hsize hdg hW hn hp
  have h1 : (headSpec ws rm).pre.before a A.U = true := atoms_intro fun w hw => hws w hw _ _ X.warmed
  have h2 : (Cond.codeWith y bytes maxL ret hh).before a A.U = true := hws _ hcode _ _ X.warmed
  have h3 : (Cond.initialized y.cls).before a A.U = true := hinit _ _ X.warmed
  have h4 : A.cells + (headSpec ws rm).room.cells ≤ R.cells := by rw [show (headSpec ws rm).room.cells = mc from hrc]; exact hp.1
  have h5 : A.slots + (headSpec ws rm).room.slots ≤ R.slots := by rw [show (headSpec ws rm).room.slots = ms from hrs]; exact hp.2.1
  have hPc : Pc a (A.U.calling g mk a) := hblind _ _ _ _ hp.2.2
  obtain ⟨U, Ls, c0, s0⟩ := A
  dsimp only [Pt.U, Pt.locs, Pt.cells, Pt.slots] at h1 h2 h3 h4 h5 X hn hPc ⊢
  obtain ⟨m9, methY, cY, hn9, hmY, hcY, -, hlY, -⟩ := Cond.codeWith_spec h2
  cases Option.some.inj (hn9.symm.trans hn)
  obtain ⟨kY, hkY, -⟩ := className_of_methodNamed hn
  have hinitY : kY.init = .initialized := Cond.initialized_spec (findClass_of_methodNamed hn) hkY h3
  have h : At U g.method c below := by rw [hg]; exact X.here
  have hlocals9 : W9 + (maxL + 11) + (headSpec ws rm).room.locals ≤ R.locals := hlocals
  have happ : (headSpec ws rm).appliesLoose y e.platform (U.calling g mk a) = true :=
    Spec.appliesLoose_calling (g := g) h hdg hn hkY hinitY
      (X.room_calling (g := g) (R' := (headSpec ws rm).room) hsize hmY hcY hframes (by rw [hlY]; omega) h4 h5) h1
  obtain ⟨mid, hmid⟩ := h.above
  have hfr : (U.setTop g).frames = (.java g :: mid) ++ below := by rw [State.frames_setTop' g h.top, hmid]; rfl
  obtain ⟨o, s₂, hsteps, -, hend, hq⟩ := Steps.callFree hM p X.admits X.cas X.clock (acts := []) hfr happ hPc trivial
  have hq' : vx_Q Qc XC mc ms free a (U.calling g mk a) o s₂ := hq
  rw [State.frames_setTop' g h.top] at hend
  obtain ⟨g₀, hg0⟩ := Option.isSome_iff_exists.mp h.top
  obtain ⟨r, hr⟩ := State.topJava?_eq_some.mp hg0
  have hr' : (({ U with heap := s₂.heap, slotsUsed := s₂.slotsUsed } : State).setVm s₂.vm).frames = .java g₀ :: r := hr
  rcases hq' with ⟨hqc, L, hfe, hL⟩ | ⟨q, rfl, E, ce, L, hx, hce, hcv, hcl, hW₂, hsm, hL⟩
  · obtain ⟨⟨v, rfl⟩, hW₂, e2, q2, q3, q4, q5, q6⟩ := id hfe
    have e3 : s₂ = ({ (U.calling g mk a).setFrames s₂.frames with heap := s₂.heap, slotsUsed := s₂.slotsUsed } : State).setVm s₂.vm := by
      have : s₂ = ({ s₂ with vm := (U.calling g mk a).vm } : State).setVm s₂.vm := rfl
      rw [e2] at this
      exact this
    obtain ⟨c₂, i₂, len₂, hc₂, hd₂, hf₂⟩ := hend
    have hW' : U.WarmedH s₂.vm := hW₂
    have hcc : c₂ = c := by
      have h1 : s₂.code? g.method = U.code? g.method := by
        rw [State.code?_eq, State.code?_eq, hW'.alike.method?]
      exact Option.some.inj (hc₂.symm.trans (h1.trans h.code))
    subst hcc
    have hlen : len₂ = len := by rw [hdg] at hd₂; cases hd₂; rfl
    subst hlen
    have hs₂ : s₂ = (({ U with heap := s₂.heap, slotsUsed := s₂.slotsUsed } : State).setVm s₂.vm).setTop { g with pc := g.pc + len₂, stack := v.toList ++ g.stack } := by
      refine e3.trans ?_
      rw [hf₂, State.calling_eq h.top, State.setFrames_setFrames, State.setTop_of_frames _ hr', hr]
      rfl
    have hsame : U.sameButNew ({ U with heap := s₂.heap, slotsUsed := s₂.slotsUsed } : State) L mc ms := by
      refine ⟨?_, q2, q3, q4, q5, q6⟩
      obtain ⟨t, ht, -⟩ := State.frames_cons hr
      show ({ U with heap := s₂.heap, slotsUsed := s₂.slotsUsed } : State) = { U.setFrames U.frames with heap := s₂.heap, slotsUsed := s₂.slotsUsed }
      rw [State.setFrames_self ht]
    subst hg
    refine Or.inl ⟨v, ⟨(({ U with heap := s₂.heap, slotsUsed := s₂.slotsUsed } : State).setVm s₂.vm), Ls ++ L, c0 + mc, s0 + ms⟩,
      ⟨X.admits, X.cas, X.clock, X.frames, X.room, X.hears, X.method, X.code, (X.here.setHeapUsed s₂.heap s₂.slotsUsed).setVm hW'.alike, X.tail, State.WarmedH.trans X.warmed hW', X.limits, X.bytes, X.same.trans (hsame.setVm s.vm)⟩,
      ⟨g, mk, s₂, L, rfl, rfl, hqc, rfl, hL, rfl, rfl⟩, ?_⟩
    show Steps p.tables e below _ ((({ U with heap := s₂.heap, slotsUsed := s₂.slotsUsed } : State).setVm s₂.vm).setTop { g with pc := g.pc + len₂, stack := v.toList ++ g.stack })
    rw [← hs₂]
    exact hsteps
  · obtain ⟨e2, q2, q3, q4, q5, q6⟩ := id hsm
    have e3 : s₂ = ({ (U.calling g mk a).setFrames s₂.frames with heap := s₂.heap, slotsUsed := s₂.slotsUsed } : State).setVm s₂.vm := by
      have : s₂ = ({ s₂ with vm := (U.calling g mk a).vm } : State).setVm s₂.vm := rfl
      rw [e2] at this
      exact this
    have hf₂ : s₂.frames = .throwing q :: .java g :: U.frames.tail := hend
    have hW' : U.WarmedH s₂.vm := hW₂
    have hs₂ : s₂ = ((({ U with heap := s₂.heap, slotsUsed := s₂.slotsUsed } : State).setVm s₂.vm).setTop g).pushFrame (.throwing q) := by
      refine e3.trans ?_
      rw [hf₂, State.calling_eq h.top, State.setFrames_setFrames, State.pushFrame, State.frames_setTop _ hr', State.setTop_of_frames _ hr', State.setFrames_setFrames, hr]
      rfl
    have hsame : U.sameButNew ({ U with heap := s₂.heap, slotsUsed := s₂.slotsUsed } : State) L mc ms := by
      refine ⟨?_, q2, q3, q4, q5, q6⟩
      obtain ⟨t, ht, -⟩ := State.frames_cons hr
      show ({ U with heap := s₂.heap, slotsUsed := s₂.slotsUsed } : State) = { U.setFrames U.frames with heap := s₂.heap, slotsUsed := s₂.slotsUsed }
      rw [State.setFrames_self ht]
    subst hg
    refine Or.inr ⟨q, ⟨(({ U with heap := s₂.heap, slotsUsed := s₂.slotsUsed } : State).setVm s₂.vm), Ls ++ L, c0 + mc, s0 + ms⟩,
      ⟨X.admits, X.cas, X.clock, X.frames, X.room, X.hears, X.method, X.code, (X.here.setHeapUsed s₂.heap s₂.slotsUsed).setVm hW'.alike, X.tail, State.WarmedH.trans X.warmed hW', X.limits, X.bytes, X.same.trans (hsame.setVm s.vm)⟩,
      ⟨g, mk, s₂, L, E, ce, rfl, rfl, hx, hce, hcv, hcl, rfl, hL, rfl, rfl⟩, ?_⟩
    show Steps p.tables e below _ (((({ U with heap := s₂.heap, slotsUsed := s₂.slotsUsed } : State).setVm s₂.vm).setTop g).pushFrame (.throwing q))
    rw [← hs₂]
    exact hsteps
end
variable {p : Program} {l : Launch} {e : Env} {R : Room} {s : State} {m : MethodId} {args : Array Value} {below : List Frame} {meth : Method} {c : Code} {T : State} {H : Heap} {locs : List Loc} {cells slots : Nat}
theorem vx_callVX (X : Stand p l e R s m args below meth c T locs cells slots) (hexec : p.tables.exec = Jvm.exec) {own C : String} {index : Nat} {y : MethodName} {bytes : ByteArray} {maxL : Nat} {ret : Option FieldType} {hh : List (Nat × Nat × Nat × Nat)}
    (hown : s.vm.findClass own = some m.cls) (hlink : (Cond.methodLink own index y).before args s = true) (hinst : (Cond.instanceMethod y).before args s = true) (hsel : (Cond.selects C y y).before args s = true)
    (hcode : (Cond.codeWith y bytes maxL ret hh).before args s = true) (hy : y.cls ≠ "java/lang/invoke/MethodHandle" ∧ y.cls ≠ "java/lang/invoke/VarHandle")
    {W9 : Nat} {Pre : Pt → Array Value → Prop} {Post : Pt → Array Value → Option Value → Pt → Prop} {PostX : Pt → Array Value → Addr → Pt → Prop} (hK : vx_Back l R p e below s args y 3 W9 Pre Post PostX)
    {b : Addr} {cellB : Cell} (hcell : T.heap[b]? = some cellB) (hobj : cellB.vm.isStatics = false) (hcls : s.vm.findClass C = some cellB.cls)
    {g : JFrame} (hg : g.method = m) (hsize : g.locals.size = c.maxLocals) {argsL rest : List Value} (hlen : ∀ sig, parseMethodDescriptor y.desc = some sig → argsL.length = sig.parameters.length)
    (hstack : g.stack = argsL.reverse ++ .ref b :: rest) (hW : 2 * g.monitorRoom + (rest.map fun v => v.category).sum ≤ W9) (hdg : decode c.code g.pc = .ok (.invokevirtual index, 3))
    (hpre : ∀ vm₁, s.WarmedH vm₁ → Pre ⟨T.setVm vm₁, locs, cells, slots⟩ (Value.ref b :: argsL).toArray) :
    (∃ (v : Option Value) (vm₁ : Vm) (B : Pt), s.WarmedH vm₁ ∧ Stand p l e R s m args below meth c B.U B.locs B.cells B.slots ∧ Post ⟨T.setVm vm₁, locs, cells, slots⟩ (Value.ref b :: argsL).toArray v B ∧
      ∀ target, Steps p.tables e below (B.U.setTop { g with pc := g.pc + 3, stack := v.toList ++ rest }) target → Steps p.tables e below (T.setTop g) target) ∨
    (∃ (q : Addr) (vm₁ : Vm) (B : Pt), s.WarmedH vm₁ ∧ Stand p l e R s m args below meth c B.U B.locs B.cells B.slots ∧ PostX ⟨T.setVm vm₁, locs, cells, slots⟩ (Value.ref b :: argsL).toArray q B ∧
      Steps p.tables e below (T.setTop g) ((B.U.setTop { g with stack := rest }).pushFrame (.throwing q))) := by
  obtain ⟨mk, methM, hnamed, hmethM, hstM, habM⟩ := Cond.instanceMethod_spec hinst
  obtain ⟨m8, methM', cM, hn8, hmethM', -, -, -, -, -, -, hsigM⟩ := Cond.codeWith_spec hcode
  cases Option.some.inj (hn8.symm.trans hnamed)
  cases hmethM.symm.trans hmethM'
  obtain ⟨c2, r2, m2, q1, q2, q3, q4, kP, hkP, hkPi⟩ := Cond.selects_spec hsel
  cases hcls.symm.trans q1
  cases (State.methodFound?_of_named hnamed hy).symm.trans q2
  cases hnamed.symm.trans q3
  have hselP : selectMethod e.platform s.vm cellB.cls mk = .method mk := by rw [Launch.admits_selectMethod X.admits]; exact q4
  obtain ⟨vm₁, X₁, hstep₁⟩ := X.invokevirtual hexec hown hlink hnamed hmethM hstM hkP hkPi hy (a := b) (cell := cellB) hcell
    (fun z h => by rw [h] at hobj; cases hobj) hselP hmethM habM hkP hkPi (g := g) hg (argsL := argsL) (rest := rest) (hlen _ hsigM) hstack hdg
  rcases hK m meth c ⟨T.setVm vm₁, locs, cells, slots⟩ { g with stack := rest } (.invokevirtual index) mk (Value.ref b :: argsL).toArray X₁ hg hsize hdg hW (X₁.named hnamed) (hpre vm₁ X₁.warmed) with ⟨v, B, X', hpost, hsteps⟩ | ⟨q, B, X', hpost, hsteps⟩
  · exact Or.inl ⟨v, vm₁, B, X₁.warmed, X', hpost, fun target h => hstep₁ _ fun acts => by rw [doInvoke_state]; exact hsteps.trans h⟩
  · exact Or.inr ⟨q, vm₁, B, X₁.warmed, X', hpost, hstep₁ _ fun acts => by rw [doInvoke_state]; exact hsteps⟩
theorem vx_callSX (X : Stand p l e R s m args below meth c T locs cells slots) (hexec : p.tables.exec = Jvm.exec) {own : String} {index : Nat} {y : MethodName} {bytes : ByteArray} {maxL : Nat} {ret : Option FieldType} {hh : List (Nat × Nat × Nat × Nat)}
    (hown : s.vm.findClass own = some m.cls) (hlink : (Cond.methodLink own index y).before args s = true) (hstat : (Cond.static y).before args s = true) (hinit : (Cond.initialized y.cls).before args s = true)
    (hcode : (Cond.codeWith y bytes maxL ret hh).before args s = true) (hy : y.cls ≠ "java/lang/invoke/MethodHandle" ∧ y.cls ≠ "java/lang/invoke/VarHandle")
    {W9 : Nat} {Pre : Pt → Array Value → Prop} {Post : Pt → Array Value → Option Value → Pt → Prop} {PostX : Pt → Array Value → Addr → Pt → Prop} (hK : vx_Back l R p e below s args y 3 W9 Pre Post PostX)
    {g : JFrame} (hg : g.method = m) (hsize : g.locals.size = c.maxLocals) {argsL rest : List Value} (hlen : ∀ sig, parseMethodDescriptor y.desc = some sig → argsL.length = sig.parameters.length)
    (hstack : g.stack = argsL.reverse ++ rest) (hW : 2 * g.monitorRoom + (rest.map fun v => v.category).sum ≤ W9) (hdg : decode c.code g.pc = .ok (.invokestatic index, 3))
    (hpre : ∀ vm₁, s.WarmedH vm₁ → Pre ⟨T.setVm vm₁, locs, cells, slots⟩ argsL.toArray) :
    (∃ (v : Option Value) (vm₁ : Vm) (B : Pt), s.WarmedH vm₁ ∧ Stand p l e R s m args below meth c B.U B.locs B.cells B.slots ∧ Post ⟨T.setVm vm₁, locs, cells, slots⟩ argsL.toArray v B ∧
      ∀ target, Steps p.tables e below (B.U.setTop { g with pc := g.pc + 3, stack := v.toList ++ rest }) target → Steps p.tables e below (T.setTop g) target) ∨
    (∃ (q : Addr) (vm₁ : Vm) (B : Pt), s.WarmedH vm₁ ∧ Stand p l e R s m args below meth c B.U B.locs B.cells B.slots ∧ PostX ⟨T.setVm vm₁, locs, cells, slots⟩ argsL.toArray q B ∧
      Steps p.tables e below (T.setTop g) ((B.U.setTop { g with stack := rest }).pushFrame (.throwing q))) := by
  obtain ⟨mk, methM, cM, hnamed, hmethM, -, -, -, -, -, -, hsigM⟩ := Cond.codeWith_spec hcode
  have hstatic : methM.isStatic = true := Cond.static_spec hnamed hmethM hstat
  obtain ⟨kP, hkP, -⟩ := className_of_methodNamed hnamed
  have hinitP : kP.init = .initialized := Cond.initialized_spec (findClass_of_methodNamed hnamed) hkP hinit
  obtain ⟨vm₁, X₁, hstep₁⟩ := X.invokestatic hexec hown hlink hnamed hmethM hstatic hkP hinitP hy (g := g) hg (argsL := argsL) (rest := rest) (hlen _ hsigM) hstack hdg
  rcases hK m meth c ⟨T.setVm vm₁, locs, cells, slots⟩ { g with stack := rest } (.invokestatic index) mk argsL.toArray X₁ hg hsize hdg hW (X₁.named hnamed) (hpre vm₁ X₁.warmed) with ⟨v, B, X', hpost, hsteps⟩ | ⟨q, B, X', hpost, hsteps⟩
  · exact Or.inl ⟨v, vm₁, B, X₁.warmed, X', hpost, fun target h => hstep₁ _ fun acts => by rw [doInvoke_state]; exact hsteps.trans h⟩
  · exact Or.inr ⟨q, vm₁, B, X₁.warmed, X', hpost, hstep₁ _ fun acts => by rw [doInvoke_state]; exact hsteps⟩
theorem vx_callVW (X : Stand p l e R s m args below meth c T locs cells slots) (hexec : p.tables.exec = Jvm.exec) {own C : String} {index : Nat} {y : MethodName} {bytes : ByteArray} {maxL : Nat} {ret : Option FieldType} {hh : List (Nat × Nat × Nat × Nat)}
    (hown : s.vm.findClass own = some m.cls) (hlink : (Cond.methodLink own index y).before args s = true) (hinst : (Cond.instanceMethod y).before args s = true) (hsel : (Cond.selects C y y).before args s = true)
    (hcode : (Cond.codeWith y bytes maxL ret hh).before args s = true) (hy : y.cls ≠ "java/lang/invoke/MethodHandle" ∧ y.cls ≠ "java/lang/invoke/VarHandle")
    {W9 : Nat} {Pre : Pt → Array Value → Prop} {Post : Pt → Array Value → Option Value → Pt → Prop} (hK : Back l R p e below s args y 3 W9 Pre Post)
    {b : Addr} {cellB : Cell} (hcell : T.heap[b]? = some cellB) (hobj : cellB.vm.isStatics = false) (hcls : s.vm.findClass C = some cellB.cls)
    {g : JFrame} (hg : g.method = m) (hsize : g.locals.size = c.maxLocals) {argsL rest : List Value} (hlen : ∀ sig, parseMethodDescriptor y.desc = some sig → argsL.length = sig.parameters.length)
    (hstack : g.stack = argsL.reverse ++ .ref b :: rest) (hW : 2 * g.monitorRoom + (rest.map fun v => v.category).sum ≤ W9) (hdg : decode c.code g.pc = .ok (.invokevirtual index, 3))
    (hpre : ∀ vm₁, s.WarmedH vm₁ → Pre ⟨T.setVm vm₁, locs, cells, slots⟩ (Value.ref b :: argsL).toArray) :
    ∃ (v : Option Value) (vm₁ : Vm) (B : Pt), s.WarmedH vm₁ ∧ Stand p l e R s m args below meth c B.U B.locs B.cells B.slots ∧ Post ⟨T.setVm vm₁, locs, cells, slots⟩ (Value.ref b :: argsL).toArray v B ∧
      ∀ target, Steps p.tables e below (B.U.setTop { g with pc := g.pc + 3, stack := v.toList ++ rest }) target → Steps p.tables e below (T.setTop g) target := by
  obtain ⟨mk, methM, hnamed, hmethM, hstM, habM⟩ := Cond.instanceMethod_spec hinst
  obtain ⟨m8, methM', cM, hn8, hmethM', -, -, -, -, -, -, hsigM⟩ := Cond.codeWith_spec hcode
  cases Option.some.inj (hn8.symm.trans hnamed)
  cases hmethM.symm.trans hmethM'
  obtain ⟨c2, r2, m2, q1, q2, q3, q4, kP, hkP, hkPi⟩ := Cond.selects_spec hsel
  cases hcls.symm.trans q1
  cases (State.methodFound?_of_named hnamed hy).symm.trans q2
  cases hnamed.symm.trans q3
  have hselP : selectMethod e.platform s.vm cellB.cls mk = .method mk := by rw [Launch.admits_selectMethod X.admits]; exact q4
  obtain ⟨vm₁, X₁, hstep₁⟩ := X.invokevirtual hexec hown hlink hnamed hmethM hstM hkP hkPi hy (a := b) (cell := cellB) hcell
    (fun z h => by rw [h] at hobj; cases hobj) hselP hmethM habM hkP hkPi (g := g) hg (argsL := argsL) (rest := rest) (hlen _ hsigM) hstack hdg
  obtain ⟨v, B, X', hpost, hsteps⟩ := hK m meth c ⟨T.setVm vm₁, locs, cells, slots⟩ { g with stack := rest } (.invokevirtual index) mk (Value.ref b :: argsL).toArray X₁ hg hsize hdg hW (X₁.named hnamed) (hpre vm₁ X₁.warmed)
  exact ⟨v, vm₁, B, X₁.warmed, X', hpost, fun target h => hstep₁ _ fun acts => by rw [doInvoke_state]; exact hsteps.trans h⟩
abbrev vx_CVW (R : Room) (s : State) (args : Array Value) (own C : String) (index : Nat) (y : MethodName) (bytes : ByteArray) (maxL : Nat) (ret : Option FieldType) (hh : List (Nat × Nat × Nat × Nat)) (ws : List Cond) (rm : Room) (mc ms n : Nat) : Prop :=
  (rm.cells = mc ∧ rm.slots = ms ∧ rm.frames + 1 ≤ R.frames ∧ 8 + (maxL + 11) + rm.locals ≤ R.locals ∧ (∀ w ∈ ws, ∀ (a' : Array Value) (U : State), s.WarmedH U.vm → w.before a' U = true) ∧ Cond.codeWith y bytes maxL ret hh ∈ ws) ∧
  (Cond.codeWith y bytes maxL ret hh).before args s = true ∧ (Cond.initialized y.cls).before args s = true ∧ (y.cls ≠ "java/lang/invoke/MethodHandle" ∧ y.cls ≠ "java/lang/invoke/VarHandle") ∧
  (∀ sig, parseMethodDescriptor y.desc = some sig → n = sig.parameters.length) ∧ (Cond.methodLink own index y).before args s = true ∧ (Cond.instanceMethod y).before args s = true ∧ (Cond.selects C y y).before args s = true
theorem vx_cwVW {own C : String} {index maxL mc ms : Nat} {y : MethodName} {bytes : ByteArray} {ret : Option FieldType} {hh : List (Nat × Nat × Nat × Nat)} {Ts ws ws' : List Cond} {rm : Room} (n : Nat) (ht : ∀ w ∈ Ts, w.before args s = true) (hT : GoodIn Ts (wsV own index C y ws)) (hw : ws = Cond.codeWith y bytes maxL ret hh :: ws') (hrc : rm.cells = mc) (hrs : rm.slots = ms)
    (hd : y.cls = C ∧ y.cls ≠ "java/lang/invoke/MethodHandle" ∧ y.cls ≠ "java/lang/invoke/VarHandle" ∧ (parseMethodDescriptor y.desc).map (fun d => d.parameters.length) = some n) (hR : rm.frames + 1 ≤ R.frames ∧ 8 + (maxL + 11) + rm.locals ≤ R.locals) :
    vx_CVW R s args own C index y bytes maxL ret hh ws rm mc ms n := by
  obtain ⟨hC, hd⟩ := hd
  subst hC
  have ok : ∀ w ∈ wsV own index y.cls y ws, w.before args s = true := fun w h => ht w (hT w h).1
  have hG : GoodIn Ts ws := fun w h => hT w (by unfold wsV; exact List.mem_append_right _ h)
  have hc : Cond.codeWith y bytes maxL ret hh ∈ ws := by rw [hw]; exact List.mem_cons_self
  refine ⟨⟨hrc, hrs, hR.1, hR.2, pay_in ht hG, hc⟩, ht _ (hG _ hc).1, ok _ (by simp [wsV]), ⟨hd.1, hd.2.1⟩, fun sig h => ?_, ok _ (by simp [wsV]), ok _ (by simp [wsV]), ok _ (by simp [wsV])⟩
  have h2 := hd.2.2
  rw [h] at h2
  exact (Option.some.inj h2).symm
theorem vx_runVW {y : MethodName} {bytes cc : ByteArray} {maxL nL mc ms n index : Nat} {ret : Option FieldType} {hh : List (Nat × Nat × Nat × Nat)} {ws : List Cond} {rm : Room} {Pc : Array Value → State → Prop} {Qc : Array Value → State → Outcome → State → Prop} {free : Addr → Prop} {Ts : List Cond} {own C : String} {b : Addr} {As rest : List Value} {g : JFrame}
    (S : CallFix p m c cc nL s args Ts own) (hM : Met l y ws rm Pc Qc mc ms free) (cw : vx_CVW R s args own C index y bytes maxL ret hh ws rm mc ms n) (hp : PreV s H C b Pc As)
    (hg : g.method = m) (hn : As.length = n) (hsize : g.locals.size = nL) (hstack : g.stack = As.reverse ++ .ref b :: rest) (hW : 2 * g.monitorRoom + (rest.map fun v => v.category).sum ≤ 8) (hdg : decode cc g.pc = .ok (.invokevirtual index, 3)) (hf : cells + mc ≤ R.cells ∧ slots + ms ≤ R.slots) :
    va_Run p l e R s m args below meth c H locs cells slots mc ms g rest (Qc (Value.ref b :: As).toArray) free := by
  obtain ⟨⟨hrc, hrs, hfr, hlo, hws, hcw⟩, hcode, hini, hy, hlen, hl, hin, hse⟩ := cw
  have hK : Back l R p e below s args y 3 8 (PreOf R mc ms Pc) (PostOf Qc mc ms free) := va_backW (hh := hh) (bytes := bytes) (maxL := maxL) (ret := ret) hM hp.1 hrc hrs hfr hlo hws hcw (fun a' U hW => word_at hW (Or.inl (by first | rfl | simp [Cond.onTables, Cond.keeps, Cond.steady])) hini)
  obtain ⟨hx, hb, hml, ho, -⟩ := S
  obtain ⟨-, ⟨cellB, hcB, hoB, hclB⟩, hPc⟩ := hp
  intro T hT X
  obtain ⟨v, vm₁, ⟨U', l2, c2, s2⟩, hW₁, X', ⟨g', mk, t, L, e1, e2, hq, h1, hL, h2, h3⟩, st⟩ := vx_callVW X hx (C := C) (hh := hh) (bytes := bytes) (maxL := maxL) (ret := ret) ho hl hin hse hcode hy hK (by rw [hT]; exact hcB) hoB hclB hg (hsize.trans hml.symm) (argsL := As) (rest := rest) (fun sig h => hn.trans (hlen sig h)) hstack hW (by rw [hb]; exact hdg)
    (fun vm₁ hW₁ => ⟨hf.1, hf.2, hPc (T.setVm vm₁) hT hW₁⟩)
  dsimp only [Pt.U, Pt.locs, Pt.cells, Pt.slots] at X' e1 e2 h1 h2 h3 st
  subst h1; subst h2; subst h3
  exact ⟨v, (T.setVm vm₁).calling g' mk (Value.ref b :: As).toArray, t, U', L, hT, X', hL, e1, e2, hq, st⟩
section
variable {y : MethodName} {bytes cc : ByteArray} {maxL nL mc ms n index : Nat} {ret : Option FieldType} {ws : List Cond} {rm : Room} {Pc : Array Value → State → Prop} {Qc : Array Value → State → Outcome → State → Prop} {XC : String → State → State → Prop} {free : Addr → Prop} {Ts : List Cond} {own C : String} {b : Addr} {As rest : List Value} {g : JFrame}
theorem vx_runVX {hh : List (Nat × Nat × Nat × Nat)} (S : CallFix p m c cc nL s args Ts own) (hM : vx_Met l y ws rm Pc Qc XC mc ms free) (cw : vx_CVW R s args own C index y bytes maxL ret hh ws rm mc ms n) (hp : PreV s H C b Pc As)
    (hg : g.method = m) (hn : As.length = n) (hsize : g.locals.size = nL) (hstack : g.stack = As.reverse ++ .ref b :: rest) (hW : 2 * g.monitorRoom + (rest.map fun v => v.category).sum ≤ 8) (hdg : decode cc g.pc = .ok (.invokevirtual index, 3)) (hf : cells + mc ≤ R.cells ∧ slots + ms ≤ R.slots) :
    vx_Run p l e R s m args below meth c H locs cells slots mc ms g rest (Qc (Value.ref b :: As).toArray) XC free := by
  obtain ⟨⟨hrc, hrs, hfr, hlo, hws, hcw⟩, hcode, hini, hy, hlen, hl, hin, hse⟩ := cw
  have hK : vx_Back l R p e below s args y 3 8 (PreOf R mc ms Pc) (PostOf Qc mc ms free) (vx_Post XC mc ms free) := vx_backW (hh := hh) (bytes := bytes) (maxL := maxL) (ret := ret) hM hp.1 hrc hrs hfr hlo hws hcw (fun a' U hW => word_at hW (Or.inl (by first | rfl | simp [Cond.onTables, Cond.keeps, Cond.steady])) hini)
  obtain ⟨hx, hb, hml, ho, -⟩ := S
  obtain ⟨-, ⟨cellB, hcB, hoB, hclB⟩, hPc⟩ := hp
  intro T hT X
  rcases vx_callVX X hx (C := C) (hh := hh) (bytes := bytes) (maxL := maxL) (ret := ret) ho hl hin hse hcode hy hK (by rw [hT]; exact hcB) hoB hclB hg (hsize.trans hml.symm) (argsL := As) (rest := rest) (fun sig h => hn.trans (hlen sig h)) hstack hW (by rw [hb]; exact hdg)
    (fun vm₁ hW₁ => ⟨hf.1, hf.2, hPc (T.setVm vm₁) hT hW₁⟩) with ⟨v, vm₁, ⟨U', l2, c2, s2⟩, hW₁, X', ⟨g', mk, t, L, e1, e2, hq, h1, hL, h2, h3⟩, st⟩ | ⟨q, vm₁, ⟨U', l2, c2, s2⟩, hW₁, X', ⟨g', mk, t, L, E, ce, e1, e2, hq, hce, hcv, hcl, h1, hL, h2, h3⟩, st⟩
  · dsimp only [Pt.U, Pt.locs, Pt.cells, Pt.slots] at X' e1 e2 h1 h2 h3 st
    subst h1; subst h2; subst h3
    exact Or.inl ⟨v, (T.setVm vm₁).calling g' mk (Value.ref b :: As).toArray, t, U', L, hT, X', hL, e1, e2, hq, st⟩
  · dsimp only [Pt.U, Pt.locs, Pt.cells, Pt.slots] at X' e1 e2 h1 h2 h3 st hcl
    subst h1; subst h2; subst h3
    exact Or.inr ⟨q, (T.setVm vm₁).calling g' mk (Value.ref b :: As).toArray, t, U', L, E, ce, hT, X', hL, e1, e2, hq, hce, hcv, vx_cls hW₁ hcl, st⟩
theorem vx_runSX {hh : List (Nat × Nat × Nat × Nat)} (S : CallFix p m c cc nL s args Ts own) (hM : vx_Met l y ws rm Pc Qc XC mc ms free) (cw : vx_CSW R s args own index y bytes maxL ret hh ws rm mc ms n) (hp : PreS s H Pc As)
    (hg : g.method = m) (hn : As.length = n) (hsize : g.locals.size = nL) (hstack : g.stack = As.reverse ++ rest) (hW : 2 * g.monitorRoom + (rest.map fun v => v.category).sum ≤ 8) (hdg : decode cc g.pc = .ok (.invokestatic index, 3)) (hf : cells + mc ≤ R.cells ∧ slots + ms ≤ R.slots) :
    vx_Run p l e R s m args below meth c H locs cells slots mc ms g rest (Qc As.toArray) XC free := by
  obtain ⟨⟨hrc, hrs, hfr, hlo, hws, hcw⟩, hcode, hini, hy, hlen, hl, hstt⟩ := cw
  have hK : vx_Back l R p e below s args y 3 8 (PreOf R mc ms Pc) (PostOf Qc mc ms free) (vx_Post XC mc ms free) := vx_backW (hh := hh) (bytes := bytes) (maxL := maxL) (ret := ret) hM hp.1 hrc hrs hfr hlo hws hcw (fun a' U hW => word_at hW (Or.inl (by first | rfl | simp [Cond.onTables, Cond.keeps, Cond.steady])) hini)
  obtain ⟨hx, hb, hml, ho, -⟩ := S
  intro T hT X
  rcases vx_callSX X hx (hh := hh) (bytes := bytes) (maxL := maxL) (ret := ret) ho hl hstt hini hcode hy hK hg (hsize.trans hml.symm) (argsL := As) (rest := rest) (fun sig h => hn.trans (hlen sig h)) hstack hW (by rw [hb]; exact hdg)
    (fun vm₁ hW₁ => ⟨hf.1, hf.2, hp.2 (T.setVm vm₁) hT hW₁⟩) with ⟨v, vm₁, ⟨U', l2, c2, s2⟩, hW₁, X', ⟨g', mk, t, L, e1, e2, hq, h1, hL, h2, h3⟩, st⟩ | ⟨q, vm₁, ⟨U', l2, c2, s2⟩, hW₁, X', ⟨g', mk, t, L, E, ce, e1, e2, hq, hce, hcv, hcl, h1, hL, h2, h3⟩, st⟩
  · dsimp only [Pt.U, Pt.locs, Pt.cells, Pt.slots] at X' e1 e2 h1 h2 h3 st
    subst h1; subst h2; subst h3
    exact Or.inl ⟨v, (T.setVm vm₁).calling g' mk As.toArray, t, U', L, hT, X', hL, e1, e2, hq, st⟩
  · dsimp only [Pt.U, Pt.locs, Pt.cells, Pt.slots] at X' e1 e2 h1 h2 h3 st hcl
    subst h1; subst h2; subst h3
    exact Or.inr ⟨q, (T.setVm vm₁).calling g' mk As.toArray, t, U', L, E, ce, hT, X', hL, e1, e2, hq, hce, hcv, vx_cls hW₁ hcl, st⟩
end
end VXH
theorem vx_ofWH {l : Launch} {y : MethodName} {ws ws' : List Cond} {rm : Room} {Pc : Array Value → State → Prop} {Qc : Array Value → State → Outcome → State → Prop} {XC : String → State → State → Prop} {mc ms : Nat} {free : Addr → Prop} {cc : ByteArray} {maxL : Nat} {ret : Option FieldType} {hh : List (Nat × Nat × Nat × Nat)}
    (hy : plainName y.cls = true) (hw : ws = Cond.codeWith y cc maxL ret hh :: ws')
    (body : ∀ p e s m args below meth c s₁, BodyLoose p l y (headSpec ws rm) cc maxL ret e s m args below meth c s₁ → c.maxLocals = maxL → Pc args s →
      W p l e (headSpec ws rm).room s m args below meth c s.heap [] 0 0 (vx_MQ below Qc XC args s mc ms free) (entryFrame m args maxL)) : vx_Met l y ws rm Pc Qc XC mc ms free := by
  refine MetFree.of_bodyS (code := cc) (maxLocals := maxL) (ret := ret) hy ?_ ?_
  · intro args s m h hn
    obtain ⟨m9, meth, c, hn9, h1, h2, h3, h4, -, h5, h6, -⟩ := Cond.codeWith_spec (atoms_spec (ws := ws) h _ (by rw [hw]; exact List.mem_cons_self))
    cases hn.symm.trans hn9
    exact ⟨meth, c, h1, h2, h3, h4, h5, h6⟩
  · intro p e s m args below meth c s₁ B hml hP _
    have hh0 : s₁.heap = s.heap := by rw [B.state]; rfl
    obtain ⟨t, a1, o, b1, b2, b3⟩ := body p e s m args below meth c s₁ B hml hP s₁ hh0 (Stand.of_body B)
    exact ⟨t, o, a1, b1, b2, b3⟩
/-! ===== END ===== -/
end
section
def RX0 : String := "CourierRelay$Courier"
def TX0 : u_T := fun k => match k with
  | 0 => ("CourierRelay$Courier", "area", "I", false)
  | 1 => ("CourierRelay$Courier", "zone", "I", false)
  | 2 => ("CourierRelay$Courier", "tips", "I", false)
  | 3 => ("CourierRelay$Courier", "doing", "I", false)
  | _ => ("CourierRelay$Courier", "parcel", "I", false)
def tyX0 : Nat → FieldType := fun k => match k with
  | 0 => .int
  | 1 => .int
  | 2 => .int
  | 3 => .int
  | _ => .int
abbrev wsX00 : List Cond := u_ws RX0 TX0 5
theorem nmX0 : ∀ a, a < 5 → ∀ b, b < 5 → a ≠ b → (TX0 a).2.1 ≠ (TX0 b).2.1 := by decide +kernel
theorem tyX0_ok : ∀ k, k < 5 → parseFieldDescriptor (TX0 k).2.2.1 = some (tyX0 k) := by decide +kernel
abbrev cX0_init : ByteArray := prog_2_method_1_code
def yX0_init : MethodName := ⟨RX0, "<init>", "()V"⟩
abbrev cX0_begin : ByteArray := prog_2_method_2_code
def yX0_begin : MethodName := ⟨RX0, "begin", "(II)V"⟩
abbrev cX0_become : ByteArray := prog_2_method_3_code
def yX0_become : MethodName := ⟨RX0, "become", "(LCourierRelay$Courier;)V"⟩
abbrev cX0_setFree : ByteArray := prog_2_method_4_code
def yX0_setFree : MethodName := ⟨RX0, "setFree", "()V"⟩
def RX1 : String := "CourierRelay$Exchange"
def TX1 : u_T := fun k => match k with
  | 0 => ("CourierRelay$Exchange", "time", "I", false)
  | 1 => ("CourierRelay$Exchange", "grace", "I", false)
  | 2 => ("CourierRelay$Exchange", "courierCount", "I", false)
  | 3 => ("CourierRelay$Exchange", "parcelCount", "I", false)
  | 4 => ("CourierRelay$Exchange", "paid", "I", false)
  | 5 => ("CourierRelay$Exchange", "handovers", "I", false)
  | 6 => ("CourierRelay$Exchange", "moves", "I", false)
  | 7 => ("CourierRelay$Exchange", "couriers", "[LCourierRelay$Courier;", true)
  | _ => ("CourierRelay$Exchange", "parcels", "[LCourierRelay$Parcel;", true)
def tyX1 : Nat → FieldType := fun k => match k with
  | 0 => .int
  | 1 => .int
  | 2 => .int
  | 3 => .int
  | 4 => .int
  | 5 => .int
  | 6 => .int
  | 7 => .array (.object "CourierRelay$Courier")
  | _ => .array (.object "CourierRelay$Parcel")
abbrev wsX10 : List Cond := u_ws RX1 TX1 9
theorem nmX1 : ∀ a, a < 9 → ∀ b, b < 9 → a ≠ b → (TX1 a).2.1 ≠ (TX1 b).2.1 := by decide +kernel
theorem tyX1_ok : ∀ k, k < 9 → parseFieldDescriptor (TX1 k).2.2.1 = some (tyX1 k) := by decide +kernel
abbrev cX1_init : ByteArray := prog_3_method_1_code
def yX1_init : MethodName := ⟨RX1, "<init>", "()V"⟩
abbrev cX1_become : ByteArray := prog_3_method_2_code
def yX1_become : MethodName := ⟨RX1, "become", "(LCourierRelay$Exchange;)V"⟩
abbrev cX1_courierAt : ByteArray := prog_3_method_3_code
def yX1_courierAt : MethodName := ⟨RX1, "courierAt", "(I)LCourierRelay$Courier;"⟩
abbrev cX1_parcelAt : ByteArray := prog_3_method_4_code
def yX1_parcelAt : MethodName := ⟨RX1, "parcelAt", "(I)LCourierRelay$Parcel;"⟩
abbrev cX1_join : ByteArray := prog_3_method_5_code
def yX1_join : MethodName := ⟨RX1, "join", "(II)I"⟩
abbrev cX1_accept : ByteArray := prog_3_method_6_code
def yX1_accept : MethodName := ⟨RX1, "accept", "(IIII)I"⟩
abbrev cX1_release : ByteArray := prog_3_method_7_code
def yX1_release : MethodName := ⟨RX1, "release", "(LCourierRelay$Courier;)V"⟩
abbrev cX1_widen : ByteArray := prog_3_method_8_code
def yX1_widen : MethodName := ⟨RX1, "widen", "(II)V"⟩
abbrev cX1_retire : ByteArray := prog_3_method_9_code
def yX1_retire : MethodName := ⟨RX1, "retire", "(I)V"⟩
abbrev cX1_pass : ByteArray := prog_3_method_10_code
def yX1_pass : MethodName := ⟨RX1, "pass", "(I)I"⟩
abbrev cX1_ticksUntilDone : ByteArray := prog_3_method_11_code
def yX1_ticksUntilDone : MethodName := ⟨RX1, "ticksUntilDone", "()I"⟩
abbrev cX1_tick : ByteArray := prog_3_method_12_code
def yX1_tick : MethodName := ⟨RX1, "tick", "(Z)Z"⟩
abbrev cX1_carry : ByteArray := prog_3_method_13_code
def yX1_carry : MethodName := ⟨RX1, "carry", "(LCourierRelay$Courier;ILCourierRelay$Parcel;)V"⟩
abbrev cX1_deliver : ByteArray := prog_3_method_14_code
def yX1_deliver : MethodName := ⟨RX1, "deliver", "(LCourierRelay$Parcel;)V"⟩
abbrev cX1_approach : ByteArray := prog_3_method_15_code
def yX1_approach : MethodName := ⟨RX1, "approach", "(LCourierRelay$Courier;LCourierRelay$Parcel;)V"⟩
abbrev cX1_choose : ByteArray := prog_3_method_16_code
def yX1_choose : MethodName := ⟨RX1, "choose", "(LCourierRelay$Courier;)V"⟩
abbrev cX1_isSought : ByteArray := prog_3_method_17_code
def yX1_isSought : MethodName := ⟨RX1, "isSought", "(I)Z"⟩
abbrev cX1_failLateParcels : ByteArray := prog_3_method_18_code
def yX1_failLateParcels : MethodName := ⟨RX1, "failLateParcels", "()V"⟩
abbrev cX1_freeCouriersOf : ByteArray := prog_3_method_19_code
def yX1_freeCouriersOf : MethodName := ⟨RX1, "freeCouriersOf", "(I)V"⟩
abbrev cX1_carriersOf : ByteArray := prog_3_method_20_code
def yX1_carriersOf : MethodName := ⟨RX1, "carriersOf", "(II)I"⟩
abbrev cX1_shortestRelay : ByteArray := prog_3_method_21_code
def yX1_shortestRelay : MethodName := ⟨RX1, "shortestRelay", "(II)I"⟩
abbrev cX1_parcelsIn : ByteArray := prog_3_method_22_code
def yX1_parcelsIn : MethodName := ⟨RX1, "parcelsIn", "(I)I"⟩
abbrev cX1_parcelsInTime : ByteArray := prog_3_method_23_code
def yX1_parcelsInTime : MethodName := ⟨RX1, "parcelsInTime", "()I"⟩
abbrev cX1_legsBy : ByteArray := prog_3_method_24_code
def yX1_legsBy : MethodName := ⟨RX1, "legsBy", "(I)I"⟩
abbrev cX1_figure : ByteArray := prog_3_method_25_code
def yX1_figure : MethodName := ⟨RX1, "figure", "(I)I"⟩
abbrev cX1_courierFigure : ByteArray := prog_3_method_26_code
def yX1_courierFigure : MethodName := ⟨RX1, "courierFigure", "(LCourierRelay$Courier;II)I"⟩
abbrev cX1_hashCouriers : ByteArray := prog_3_method_27_code
def yX1_hashCouriers : MethodName := ⟨RX1, "hashCouriers", "(J)J"⟩
abbrev cX1_hashParcels : ByteArray := prog_3_method_28_code
def yX1_hashParcels : MethodName := ⟨RX1, "hashParcels", "(J)J"⟩
def RX2 : String := "CourierRelay$History"
def TX2 : u_T := fun k => match k with
  | 0 => ("CourierRelay$History", "states", "[LCourierRelay$Exchange;", true)
  | 1 => ("CourierRelay$History", "oldest", "I", false)
  | _ => ("CourierRelay$History", "count", "I", false)
def tyX2 : Nat → FieldType := fun k => match k with
  | 0 => .array (.object "CourierRelay$Exchange")
  | 1 => .int
  | _ => .int
abbrev wsX20 : List Cond := u_ws RX2 TX2 3
theorem nmX2 : ∀ a, a < 3 → ∀ b, b < 3 → a ≠ b → (TX2 a).2.1 ≠ (TX2 b).2.1 := by decide +kernel
theorem tyX2_ok : ∀ k, k < 3 → parseFieldDescriptor (TX2 k).2.2.1 = some (tyX2 k) := by decide +kernel
abbrev cX2_init : ByteArray := prog_4_method_1_code
def yX2_init : MethodName := ⟨RX2, "<init>", "()V"⟩
abbrev cX2_stateAt : ByteArray := prog_4_method_2_code
def yX2_stateAt : MethodName := ⟨RX2, "stateAt", "(I)LCourierRelay$Exchange;"⟩
abbrev cX2_save : ByteArray := prog_4_method_3_code
def yX2_save : MethodName := ⟨RX2, "save", "(LCourierRelay$Exchange;)V"⟩
abbrev cX2_restore : ByteArray := prog_4_method_4_code
def yX2_restore : MethodName := ⟨RX2, "restore", "(LCourierRelay$Exchange;)V"⟩
def RX3 : String := "CourierRelay$Parcel"
def TX3 : u_T := fun k => match k with
  | 0 => ("CourierRelay$Parcel", "origin", "I", false)
  | 1 => ("CourierRelay$Parcel", "destination", "I", false)
  | 2 => ("CourierRelay$Parcel", "cutOff", "I", false)
  | 3 => ("CourierRelay$Parcel", "tip", "I", false)
  | 4 => ("CourierRelay$Parcel", "state", "I", false)
  | 5 => ("CourierRelay$Parcel", "zone", "I", false)
  | 6 => ("CourierRelay$Parcel", "deliveredAt", "I", false)
  | 7 => ("CourierRelay$Parcel", "paid", "I", false)
  | 8 => ("CourierRelay$Parcel", "legs", "[I", true)
  | _ => ("CourierRelay$Parcel", "shares", "[I", true)
def tyX3 : Nat → FieldType := fun k => match k with
  | 0 => .int
  | 1 => .int
  | 2 => .int
  | 3 => .int
  | 4 => .int
  | 5 => .int
  | 6 => .int
  | 7 => .int
  | 8 => .array .int
  | _ => .array .int
abbrev wsX30 : List Cond := u_ws RX3 TX3 10
theorem nmX3 : ∀ a, a < 10 → ∀ b, b < 10 → a ≠ b → (TX3 a).2.1 ≠ (TX3 b).2.1 := by decide +kernel
theorem tyX3_ok : ∀ k, k < 10 → parseFieldDescriptor (TX3 k).2.2.1 = some (tyX3 k) := by decide +kernel
abbrev cX3_init : ByteArray := prog_5_method_1_code
def yX3_init : MethodName := ⟨RX3, "<init>", "()V"⟩
abbrev cX3_begin : ByteArray := prog_5_method_2_code
def yX3_begin : MethodName := ⟨RX3, "begin", "(IIII)V"⟩
abbrev cX3_become : ByteArray := prog_5_method_3_code
def yX3_become : MethodName := ⟨RX3, "become", "(LCourierRelay$Parcel;)V"⟩
abbrev cX3_isOpen : ByteArray := prog_5_method_4_code
def yX3_isOpen : MethodName := ⟨RX3, "isOpen", "()Z"⟩
abbrev cX3_suits : ByteArray := prog_5_method_5_code
def yX3_suits : MethodName := ⟨RX3, "suits", "(I)Z"⟩
abbrev cX3_legsOf : ByteArray := prog_5_method_6_code
def yX3_legsOf : MethodName := ⟨RX3, "legsOf", "(I)I"⟩
abbrev cX3_shareOf : ByteArray := prog_5_method_7_code
def yX3_shareOf : MethodName := ⟨RX3, "shareOf", "(I)I"⟩
abbrev cX3_addLeg : ByteArray := prog_5_method_8_code
def yX3_addLeg : MethodName := ⟨RX3, "addLeg", "(I)V"⟩
abbrev cX3_sharePaid : ByteArray := prog_5_method_9_code
def yX3_sharePaid : MethodName := ⟨RX3, "sharePaid", "()V"⟩
abbrev cX3_rankOf : ByteArray := prog_5_method_10_code
def yX3_rankOf : MethodName := ⟨RX3, "rankOf", "(III)I"⟩
abbrev cX3_figure : ByteArray := prog_5_method_11_code
def yX3_figure : MethodName := ⟨RX3, "figure", "(I)I"⟩
def RX4 : String := "CourierRelay$ParcelText"
def TX4 : u_T := fun k => match k with
  | 0 => ("CourierRelay$ParcelText", "bytes", "[I", true)
  | 1 => ("CourierRelay$ParcelText", "numbers", "[I", true)
  | 2 => ("CourierRelay$ParcelText", "length", "I", false)
  | 3 => ("CourierRelay$ParcelText", "items", "I", false)
  | _ => ("CourierRelay$ParcelText", "position", "I", false)
def tyX4 : Nat → FieldType := fun k => match k with
  | 0 => .array .int
  | 1 => .array .int
  | 2 => .int
  | 3 => .int
  | _ => .int
abbrev wsX40 : List Cond := u_ws RX4 TX4 5
theorem nmX4 : ∀ a, a < 5 → ∀ b, b < 5 → a ≠ b → (TX4 a).2.1 ≠ (TX4 b).2.1 := by decide +kernel
theorem tyX4_ok : ∀ k, k < 5 → parseFieldDescriptor (TX4 k).2.2.1 = some (tyX4 k) := by decide +kernel
abbrev cX4_init : ByteArray := prog_6_method_1_code
def yX4_init : MethodName := ⟨RX4, "<init>", "()V"⟩
abbrev cX4_add : ByteArray := prog_6_method_2_code
def yX4_add : MethodName := ⟨RX4, "add", "(I)V"⟩
abbrev cX4_numberOf : ByteArray := prog_6_method_3_code
def yX4_numberOf : MethodName := ⟨RX4, "numberOf", "(II)I"⟩
abbrev cX4_read : ByteArray := prog_6_method_4_code
def yX4_read : MethodName := ⟨RX4, "read", "(I)I"⟩
abbrev cX4_readItem : ByteArray := prog_6_method_5_code
def yX4_readItem : MethodName := ⟨RX4, "readItem", "()I"⟩
abbrev cX4_readNumber : ByteArray := prog_6_method_6_code
def yX4_readNumber : MethodName := ⟨RX4, "readNumber", "(I)I"⟩
abbrev cX4_keep : ByteArray := prog_6_method_7_code
def yX4_keep : MethodName := ⟨RX4, "keep", "(II)V"⟩
abbrev cX4_fits : ByteArray := prog_6_method_8_code
def yX4_fits : MethodName := ⟨RX4, "fits", "(II)Z"⟩
abbrev cX4_isDigit : ByteArray := prog_6_method_9_code
def yX4_isDigit : MethodName := ⟨RX4, "isDigit", "(I)Z"⟩
abbrev cX4_mostDigits : ByteArray := prog_6_method_10_code
def yX4_mostDigits : MethodName := ⟨RX4, "mostDigits", "(I)I"⟩
abbrev cX4_endOf : ByteArray := prog_6_method_11_code
def yX4_endOf : MethodName := ⟨RX4, "endOf", "(I)I"⟩
def RX5 : String := "CourierRelay"
def TX5 : u_T := fun k => match k with
  | 0 => ("CourierRelay", "now", "LCourierRelay$Exchange;", true)
  | 1 => ("CourierRelay", "trial", "LCourierRelay$Exchange;", true)
  | 2 => ("CourierRelay", "history", "LCourierRelay$History;", true)
  | _ => ("CourierRelay", "text", "LCourierRelay$ParcelText;", true)
def tyX5 : Nat → FieldType := fun k => match k with
  | 0 => .object "CourierRelay$Exchange"
  | 1 => .object "CourierRelay$Exchange"
  | 2 => .object "CourierRelay$History"
  | _ => .object "CourierRelay$ParcelText"
abbrev wsX50 : List Cond := u_ws RX5 TX5 4
theorem nmX5 : ∀ a, a < 4 → ∀ b, b < 4 → a ≠ b → (TX5 a).2.1 ≠ (TX5 b).2.1 := by decide +kernel
theorem tyX5_ok : ∀ k, k < 4 → parseFieldDescriptor (TX5 k).2.2.1 = some (tyX5 k) := by decide +kernel
abbrev cX5_init : ByteArray := prog_1_method_1_code
def yX5_init : MethodName := ⟨RX5, "<init>", "()V"⟩
abbrev cX5_addCourier : ByteArray := prog_1_method_2_code
def yX5_addCourier : MethodName := ⟨RX5, "addCourier", "(II)I"⟩
abbrev cX5_setArea : ByteArray := prog_1_method_3_code
def yX5_setArea : MethodName := ⟨RX5, "setArea", "(II)I"⟩
abbrev cX5_give : ByteArray := prog_1_method_4_code
def yX5_give : MethodName := ⟨RX5, "give", "(IIII)I"⟩
abbrev cX5_setGrace : ByteArray := prog_1_method_5_code
def yX5_setGrace : MethodName := ⟨RX5, "setGrace", "(I)I"⟩
abbrev cX5_drop : ByteArray := prog_1_method_6_code
def yX5_drop : MethodName := ⟨RX5, "drop", "(I)I"⟩
abbrev cX5_run : ByteArray := prog_1_method_7_code
def yX5_run : MethodName := ⟨RX5, "run", "(I)I"⟩
abbrev cX5_value : ByteArray := prog_1_method_8_code
def yX5_value : MethodName := ⟨RX5, "value", "(I)I"⟩
abbrev cX5_courier : ByteArray := prog_1_method_9_code
def yX5_courier : MethodName := ⟨RX5, "courier", "(II)I"⟩
abbrev cX5_parcel : ByteArray := prog_1_method_10_code
def yX5_parcel : MethodName := ⟨RX5, "parcel", "(II)I"⟩
abbrev cX5_legs : ByteArray := prog_1_method_11_code
def yX5_legs : MethodName := ⟨RX5, "legs", "(IIZ)I"⟩
abbrev cX5_distance : ByteArray := prog_1_method_12_code
def yX5_distance : MethodName := ⟨RX5, "distance", "(II)I"⟩
abbrev cX5_suited : ByteArray := prog_1_method_13_code
def yX5_suited : MethodName := ⟨RX5, "suited", "(I)I"⟩
abbrev cX5_leastRelay : ByteArray := prog_1_method_14_code
def yX5_leastRelay : MethodName := ⟨RX5, "leastRelay", "(I)I"⟩
abbrev cX5_punctuality : ByteArray := prog_1_method_15_code
def yX5_punctuality : MethodName := ⟨RX5, "punctuality", "()D"⟩
abbrev cX5_paidIn : ByteArray := prog_1_method_16_code
def yX5_paidIn : MethodName := ⟨RX5, "paidIn", "(I)I"⟩
abbrev cX5_bestZone : ByteArray := prog_1_method_17_code
def yX5_bestZone : MethodName := ⟨RX5, "bestZone", "(II)I"⟩
abbrev cX5_worth : ByteArray := prog_1_method_18_code
def yX5_worth : MethodName := ⟨RX5, "worth", "(II)I"⟩
abbrev cX5_doneIn : ByteArray := prog_1_method_19_code
def yX5_doneIn : MethodName := ⟨RX5, "doneIn", "()I"⟩
abbrev cX5_append : ByteArray := prog_1_method_20_code
def yX5_append : MethodName := ⟨RX5, "append", "(I)I"⟩
abbrev cX5_clearText : ByteArray := prog_1_method_21_code
def yX5_clearText : MethodName := ⟨RX5, "clearText", "()I"⟩
abbrev cX5_parse : ByteArray := prog_1_method_22_code
def yX5_parse : MethodName := ⟨RX5, "parse", "()I"⟩
abbrev cX5_undo : ByteArray := prog_1_method_23_code
def yX5_undo : MethodName := ⟨RX5, "undo", "()I"⟩
abbrev cX5_digest : ByteArray := prog_1_method_24_code
def yX5_digest : MethodName := ⟨RX5, "digest", "()J"⟩
abbrev cX5_isZone : ByteArray := prog_1_method_25_code
def yX5_isZone : MethodName := ⟨RX5, "isZone", "(I)Z"⟩
abbrev cX5_isArea : ByteArray := prog_1_method_26_code
def yX5_isArea : MethodName := ⟨RX5, "isArea", "(I)Z"⟩
abbrev cX5_isCutOff : ByteArray := prog_1_method_27_code
def yX5_isCutOff : MethodName := ⟨RX5, "isCutOff", "(I)Z"⟩
abbrev cX5_isTip : ByteArray := prog_1_method_28_code
def yX5_isTip : MethodName := ⟨RX5, "isTip", "(I)Z"⟩
abbrev cX5_isTicks : ByteArray := prog_1_method_29_code
def yX5_isTicks : MethodName := ⟨RX5, "isTicks", "(I)Z"⟩
abbrev cX5_holds : ByteArray := prog_1_method_30_code
def yX5_holds : MethodName := ⟨RX5, "holds", "(II)Z"⟩
abbrev cX5_nextZone : ByteArray := prog_1_method_31_code
def yX5_nextZone : MethodName := ⟨RX5, "nextZone", "(II)I"⟩
abbrev cX5_at : ByteArray := prog_1_method_32_code
def yX5_at : MethodName := ⟨RX5, "at", "([II)I"⟩
abbrev cX5_sum : ByteArray := prog_1_method_33_code
def yX5_sum : MethodName := ⟨RX5, "sum", "([I)I"⟩
abbrev cX5_copyRow : ByteArray := prog_1_method_34_code
def yX5_copyRow : MethodName := ⟨RX5, "copyRow", "([I[I)V"⟩
def RX6 : String := "CourierRelayModel"
def TX6 : u_T := fun k => match k with
  | 0 => ("CourierRelayModel", "s", "[I", true)
  | 1 => ("CourierRelayModel", "past", "[I", true)
  | 2 => ("CourierRelayModel", "aside", "[I", true)
  | 3 => ("CourierRelayModel", "kept", "[I", true)
  | 4 => ("CourierRelayModel", "pasts", "I", false)
  | 5 => ("CourierRelayModel", "text", "[I", true)
  | 6 => ("CourierRelayModel", "typed", "I", false)
  | 7 => ("CourierRelayModel", "thrown", "I", false)
  | 8 => ("CourierRelayModel", "at", "I", false)
  | 9 => ("CourierRelayModel", "number", "I", false)
  | _ => ("CourierRelayModel", "h", "J", false)
def tyX6 : Nat → FieldType := fun k => match k with
  | 0 => .array .int
  | 1 => .array .int
  | 2 => .array .int
  | 3 => .array .int
  | 4 => .int
  | 5 => .array .int
  | 6 => .int
  | 7 => .int
  | 8 => .int
  | 9 => .int
  | _ => .long
abbrev wsX60 : List Cond := u_ws RX6 TX6 11
theorem nmX6 : ∀ a, a < 11 → ∀ b, b < 11 → a ≠ b → (TX6 a).2.1 ≠ (TX6 b).2.1 := by decide +kernel
theorem tyX6_ok : ∀ k, k < 11 → parseFieldDescriptor (TX6 k).2.2.1 = some (tyX6 k) := by decide +kernel
abbrev cX6_init : ByteArray := prog_8_method_1_code
def yX6_init : MethodName := ⟨RX6, "<init>", "()V"⟩
abbrev cX6_thrown : ByteArray := prog_8_method_2_code
def yX6_thrown : MethodName := ⟨RX6, "thrown", "()I"⟩
abbrev cX6_in : ByteArray := prog_8_method_3_code
def yX6_in : MethodName := ⟨RX6, "in", "(III)Z"⟩
abbrev cX6_fails : ByteArray := prog_8_method_4_code
def yX6_fails : MethodName := ⟨RX6, "fails", "(I)I"⟩
abbrev cX6_tells : ByteArray := prog_8_method_5_code
def yX6_tells : MethodName := ⟨RX6, "tells", "(I)I"⟩
abbrev cX6_copies : ByteArray := prog_8_method_6_code
def yX6_copies : MethodName := ⟨RX6, "copies", "([I[I)V"⟩
abbrev cX6_hold : ByteArray := prog_8_method_7_code
def yX6_hold : MethodName := ⟨RX6, "hold", "()V"⟩
abbrev cX6_ends : ByteArray := prog_8_method_8_code
def yX6_ends : MethodName := ⟨RX6, "ends", "(I)I"⟩
abbrev cX6_isCourier : ByteArray := prog_8_method_9_code
def yX6_isCourier : MethodName := ⟨RX6, "isCourier", "(I)Z"⟩
abbrev cX6_isParcel : ByteArray := prog_8_method_10_code
def yX6_isParcel : MethodName := ⟨RX6, "isParcel", "(I)Z"⟩
abbrev cX6_isZone : ByteArray := prog_8_method_11_code
def yX6_isZone : MethodName := ⟨RX6, "isZone", "(I)Z"⟩
abbrev cX6_of : ByteArray := prog_8_method_12_code
def yX6_of : MethodName := ⟨RX6, "of", "(II)I"⟩
abbrev cX6_sets : ByteArray := prog_8_method_13_code
def yX6_sets : MethodName := ⟨RX6, "sets", "(III)V"⟩
abbrev cX6_its : ByteArray := prog_8_method_14_code
def yX6_its : MethodName := ⟨RX6, "its", "(II)I"⟩
abbrev cX6_puts : ByteArray := prog_8_method_15_code
def yX6_puts : MethodName := ⟨RX6, "puts", "(III)V"⟩
abbrev cX6_isIn : ByteArray := prog_8_method_16_code
def yX6_isIn : MethodName := ⟨RX6, "isIn", "(II)Z"⟩
abbrev cX6_next : ByteArray := prog_8_method_17_code
def yX6_next : MethodName := ⟨RX6, "next", "(II)I"⟩
abbrev cX6_frees : ByteArray := prog_8_method_18_code
def yX6_frees : MethodName := ⟨RX6, "frees", "(I)V"⟩
abbrev cX6_suits : ByteArray := prog_8_method_19_code
def yX6_suits : MethodName := ⟨RX6, "suits", "(II)Z"⟩
abbrev cX6_legsOf : ByteArray := prog_8_method_20_code
def yX6_legsOf : MethodName := ⟨RX6, "legsOf", "(I)I"⟩
abbrev cX6_shares : ByteArray := prog_8_method_21_code
def yX6_shares : MethodName := ⟨RX6, "shares", "(II)V"⟩
abbrev cX6_delivers : ByteArray := prog_8_method_22_code
def yX6_delivers : MethodName := ⟨RX6, "delivers", "(II)V"⟩
abbrev cX6_carries : ByteArray := prog_8_method_23_code
def yX6_carries : MethodName := ⟨RX6, "carries", "(II)V"⟩
abbrev cX6_goes : ByteArray := prog_8_method_24_code
def yX6_goes : MethodName := ⟨RX6, "goes", "(II)V"⟩
abbrev cX6_isAsked : ByteArray := prog_8_method_25_code
def yX6_isAsked : MethodName := ⟨RX6, "isAsked", "(II)Z"⟩
abbrev cX6_chooses : ByteArray := prog_8_method_26_code
def yX6_chooses : MethodName := ⟨RX6, "chooses", "(I)V"⟩
abbrev cX6_failsOf : ByteArray := prog_8_method_27_code
def yX6_failsOf : MethodName := ⟨RX6, "failsOf", "(I)V"⟩
abbrev cX6_tick : ByteArray := prog_8_method_28_code
def yX6_tick : MethodName := ⟨RX6, "tick", "()V"⟩
abbrev cX6_inState : ByteArray := prog_8_method_29_code
def yX6_inState : MethodName := ⟨RX6, "inState", "(I)I"⟩
abbrev cX6_ticks : ByteArray := prog_8_method_30_code
def yX6_ticks : MethodName := ⟨RX6, "ticks", "(I)V"⟩
abbrev cX6_isArea : ByteArray := prog_8_method_31_code
def yX6_isArea : MethodName := ⟨RX6, "isArea", "(I)Z"⟩
abbrev cX6_addCourier : ByteArray := prog_8_method_32_code
def yX6_addCourier : MethodName := ⟨RX6, "addCourier", "(II)I"⟩
abbrev cX6_setArea : ByteArray := prog_8_method_33_code
def yX6_setArea : MethodName := ⟨RX6, "setArea", "(II)I"⟩
abbrev cX6_comes : ByteArray := prog_8_method_34_code
def yX6_comes : MethodName := ⟨RX6, "comes", "(IIII)V"⟩
abbrev cX6_give : ByteArray := prog_8_method_35_code
def yX6_give : MethodName := ⟨RX6, "give", "(IIII)I"⟩
abbrev cX6_setGrace : ByteArray := prog_8_method_36_code
def yX6_setGrace : MethodName := ⟨RX6, "setGrace", "(I)I"⟩
abbrev cX6_drops : ByteArray := prog_8_method_37_code
def yX6_drops : MethodName := ⟨RX6, "drops", "(I)I"⟩
abbrev cX6_drop : ByteArray := prog_8_method_38_code
def yX6_drop : MethodName := ⟨RX6, "drop", "(I)I"⟩
abbrev cX6_run : ByteArray := prog_8_method_39_code
def yX6_run : MethodName := ⟨RX6, "run", "(I)I"⟩
abbrev cX6_valueOf : ByteArray := prog_8_method_40_code
def yX6_valueOf : MethodName := ⟨RX6, "valueOf", "(I)I"⟩
abbrev cX6_value : ByteArray := prog_8_method_41_code
def yX6_value : MethodName := ⟨RX6, "value", "(I)I"⟩
abbrev cX6_courierOf : ByteArray := prog_8_method_42_code
def yX6_courierOf : MethodName := ⟨RX6, "courierOf", "(II)I"⟩
abbrev cX6_courier : ByteArray := prog_8_method_43_code
def yX6_courier : MethodName := ⟨RX6, "courier", "(II)I"⟩
abbrev cX6_parcelOf : ByteArray := prog_8_method_44_code
def yX6_parcelOf : MethodName := ⟨RX6, "parcelOf", "(II)I"⟩
abbrev cX6_parcel : ByteArray := prog_8_method_45_code
def yX6_parcel : MethodName := ⟨RX6, "parcel", "(II)I"⟩
abbrev cX6_legs : ByteArray := prog_8_method_46_code
def yX6_legs : MethodName := ⟨RX6, "legs", "(IIZ)I"⟩
abbrev cX6_apart : ByteArray := prog_8_method_47_code
def yX6_apart : MethodName := ⟨RX6, "apart", "(II)I"⟩
abbrev cX6_distance : ByteArray := prog_8_method_48_code
def yX6_distance : MethodName := ⟨RX6, "distance", "(II)I"⟩
abbrev cX6_suited : ByteArray := prog_8_method_49_code
def yX6_suited : MethodName := ⟨RX6, "suited", "(I)I"⟩
abbrev cX6_reach : ByteArray := prog_8_method_50_code
def yX6_reach : MethodName := ⟨RX6, "reach", "(III)I"⟩
abbrev cX6_relays : ByteArray := prog_8_method_51_code
def yX6_relays : MethodName := ⟨RX6, "relays", "(I)I"⟩
abbrev cX6_leastRelay : ByteArray := prog_8_method_52_code
def yX6_leastRelay : MethodName := ⟨RX6, "leastRelay", "(I)I"⟩
abbrev cX6_punctuality : ByteArray := prog_8_method_53_code
def yX6_punctuality : MethodName := ⟨RX6, "punctuality", "()D"⟩
abbrev cX6_more : ByteArray := prog_8_method_54_code
def yX6_more : MethodName := ⟨RX6, "more", "(I)I"⟩
abbrev cX6_paidBy : ByteArray := prog_8_method_55_code
def yX6_paidBy : MethodName := ⟨RX6, "paidBy", "(I)I"⟩
abbrev cX6_isMany : ByteArray := prog_8_method_56_code
def yX6_isMany : MethodName := ⟨RX6, "isMany", "(I)Z"⟩
abbrev cX6_paidIn : ByteArray := prog_8_method_57_code
def yX6_paidIn : MethodName := ⟨RX6, "paidIn", "(I)I"⟩
abbrev cX6_bestZone : ByteArray := prog_8_method_58_code
def yX6_bestZone : MethodName := ⟨RX6, "bestZone", "(II)I"⟩
abbrev cX6_worth : ByteArray := prog_8_method_59_code
def yX6_worth : MethodName := ⟨RX6, "worth", "(II)I"⟩
abbrev cX6_isDone : ByteArray := prog_8_method_60_code
def yX6_isDone : MethodName := ⟨RX6, "isDone", "()Z"⟩
abbrev cX6_doneIn : ByteArray := prog_8_method_61_code
def yX6_doneIn : MethodName := ⟨RX6, "doneIn", "()I"⟩
abbrev cX6_append : ByteArray := prog_8_method_62_code
def yX6_append : MethodName := ⟨RX6, "append", "(I)I"⟩
abbrev cX6_clearText : ByteArray := prog_8_method_63_code
def yX6_clearText : MethodName := ⟨RX6, "clearText", "()I"⟩
abbrev cX6_isAt : ByteArray := prog_8_method_64_code
def yX6_isAt : MethodName := ⟨RX6, "isAt", "(II)Z"⟩
abbrev cX6_isNumber : ByteArray := prog_8_method_65_code
def yX6_isNumber : MethodName := ⟨RX6, "isNumber", "(IIIII)Z"⟩
abbrev cX6_isItem : ByteArray := prog_8_method_66_code
def yX6_isItem : MethodName := ⟨RX6, "isItem", "()Z"⟩
abbrev cX6_parse : ByteArray := prog_8_method_67_code
def yX6_parse : MethodName := ⟨RX6, "parse", "()I"⟩
abbrev cX6_undo : ByteArray := prog_8_method_68_code
def yX6_undo : MethodName := ⟨RX6, "undo", "()I"⟩
abbrev cX6_mix : ByteArray := prog_8_method_69_code
def yX6_mix : MethodName := ⟨RX6, "mix", "(I)V"⟩
abbrev cX6_digest : ByteArray := prog_8_method_70_code
def yX6_digest : MethodName := ⟨RX6, "digest", "()J"⟩
def RJ9 : String := "java/lang/Math"
def TJ9 : u_T := fun k => match k with
  | _ => ("", "", "", false)
def tyJ9 : Nat → FieldType := fun k => match k with
  | _ => .int
abbrev wsJ90 : List Cond := u_ws RJ9 TJ9 0
theorem nmJ9 : ∀ a, a < 0 → ∀ b, b < 0 → a ≠ b → (TJ9 a).2.1 ≠ (TJ9 b).2.1 := by decide +kernel
theorem tyJ9_ok : ∀ k, k < 0 → parseFieldDescriptor (TJ9 k).2.2.1 = some (tyJ9 k) := by decide +kernel
abbrev cJ9_abs_0f7a4 : ByteArray := prog_13_method_59_code
def yJ9_abs_0f7a4 : MethodName := ⟨RJ9, "abs", "(I)I"⟩
abbrev cJ9_min_7cf53 : ByteArray := prog_13_method_69_code
def yJ9_min_7cf53 : MethodName := ⟨RJ9, "min", "(II)I"⟩
def RJ10 : String := "java/lang/System"
def TJ10 : u_T := fun k => match k with
  | _ => ("", "", "", false)
def tyJ10 : Nat → FieldType := fun k => match k with
  | _ => .int
abbrev wsJ100 : List Cond := u_ws RJ10 TJ10 0
theorem nmJ10 : ∀ a, a < 0 → ∀ b, b < 0 → a ≠ b → (TJ10 a).2.1 ≠ (TJ10 b).2.1 := by decide +kernel
theorem tyJ10_ok : ∀ k, k < 0 → parseFieldDescriptor (TJ10 k).2.2.1 = some (tyJ10 k) := by decide +kernel
def RL : String := "CourierRelayLaw"
abbrev cL_addCourier : ByteArray := method_3_code
def yL_addCourier : MethodName := ⟨RL, "addCourier", "(LCourierRelay;II[J)I"⟩
abbrev cL_setArea : ByteArray := method_4_code
def yL_setArea : MethodName := ⟨RL, "setArea", "(LCourierRelay;II[J)I"⟩
abbrev cL_give : ByteArray := method_5_code
def yL_give : MethodName := ⟨RL, "give", "(LCourierRelay;IIII[J)I"⟩
abbrev cL_setGrace : ByteArray := method_6_code
def yL_setGrace : MethodName := ⟨RL, "setGrace", "(LCourierRelay;I[J)I"⟩
abbrev cL_drop : ByteArray := method_7_code
def yL_drop : MethodName := ⟨RL, "drop", "(LCourierRelay;I[J)I"⟩
abbrev cL_run : ByteArray := method_8_code
def yL_run : MethodName := ⟨RL, "run", "(LCourierRelay;I[J)I"⟩
abbrev cL_value : ByteArray := method_9_code
def yL_value : MethodName := ⟨RL, "value", "(LCourierRelay;I[J)I"⟩
abbrev cL_courier : ByteArray := method_10_code
def yL_courier : MethodName := ⟨RL, "courier", "(LCourierRelay;II[J)I"⟩
abbrev cL_parcel : ByteArray := method_11_code
def yL_parcel : MethodName := ⟨RL, "parcel", "(LCourierRelay;II[J)I"⟩
abbrev cL_legs : ByteArray := method_12_code
def yL_legs : MethodName := ⟨RL, "legs", "(LCourierRelay;IIZ[J)I"⟩
abbrev cL_distance : ByteArray := method_13_code
def yL_distance : MethodName := ⟨RL, "distance", "(LCourierRelay;II[J)I"⟩
abbrev cL_suited : ByteArray := method_14_code
def yL_suited : MethodName := ⟨RL, "suited", "(LCourierRelay;I[J)I"⟩
abbrev cL_leastRelay : ByteArray := method_15_code
def yL_leastRelay : MethodName := ⟨RL, "leastRelay", "(LCourierRelay;I[J)I"⟩
abbrev cL_paidIn : ByteArray := method_16_code
def yL_paidIn : MethodName := ⟨RL, "paidIn", "(LCourierRelay;I[J)I"⟩
abbrev cL_bestZone : ByteArray := method_17_code
def yL_bestZone : MethodName := ⟨RL, "bestZone", "(LCourierRelay;II[J)I"⟩
abbrev cL_worth : ByteArray := method_18_code
def yL_worth : MethodName := ⟨RL, "worth", "(LCourierRelay;II[J)I"⟩
abbrev cL_append : ByteArray := method_19_code
def yL_append : MethodName := ⟨RL, "append", "(LCourierRelay;I[J)I"⟩
abbrev cL_undo : ByteArray := method_20_code
def yL_undo : MethodName := ⟨RL, "undo", "(LCourierRelay;[J)I"⟩
abbrev cL_law : ByteArray := code
def yL_law : MethodName := ⟨RL, "law", "([I)Z"⟩
abbrev vwCl : List vw_C := [(RX0, TX0, 5), (RX1, TX1, 9), (RX2, TX2, 3), (RX3, TX3, 10), (RX4, TX4, 5), (RX5, TX5, 4), (RX6, TX6, 11)]
/-! the words that every method takes: the good ones of the tables -/
def fw_LW : List Cond := lw_tbl.filter goodWord
theorem fw_LW_in {w : Cond} (h : w ∈ fw_LW) : w ∈ lw_tbl := (List.mem_filter.mp h).1
theorem fw_LW_good {w : Cond} (h : w ∈ fw_LW) : goodWord w = true := (List.mem_filter.mp h).2
theorem fw_t1 {w : Cond} (k : Nat) (h : tables_1_1[k]? = some w) (hg : goodWord w = true) : w ∈ fw_LW := List.mem_filter.mpr ⟨List.mem_append_right _ (List.mem_append_left _ (List.mem_of_getElem? h)), hg⟩
theorem fw_t2 {w : Cond} (k : Nat) (h : tables_1_2[k]? = some w) (hg : goodWord w = true) : w ∈ fw_LW := List.mem_filter.mpr ⟨List.mem_append_right _ (List.mem_append_right _ (List.mem_append_left _ (List.mem_of_getElem? h))), hg⟩
theorem fw_t3 {w : Cond} (k : Nat) (h : tables_1_3[k]? = some w) (hg : goodWord w = true) : w ∈ fw_LW := List.mem_filter.mpr ⟨List.mem_append_right _ (List.mem_append_right _ (List.mem_append_right _ (List.mem_append_left _ (List.mem_of_getElem? h)))), hg⟩
theorem fw_t4 {w : Cond} (k : Nat) (h : tables_1_4[k]? = some w) (hg : goodWord w = true) : w ∈ fw_LW := List.mem_filter.mpr ⟨List.mem_append_right _ (List.mem_append_right _ (List.mem_append_right _ (List.mem_append_right _ (List.mem_append_left _ (List.mem_of_getElem? h))))), hg⟩
theorem fw_t5 {w : Cond} (k : Nat) (h : tables_1_5[k]? = some w) (hg : goodWord w = true) : w ∈ fw_LW := List.mem_filter.mpr ⟨List.mem_append_right _ (List.mem_append_right _ (List.mem_append_right _ (List.mem_append_right _ (List.mem_append_right _ (List.mem_of_getElem? h))))), hg⟩
theorem fw_tp {w : Cond} (k : Nat) (h : (k2_sels lw_privs)[k]? = some w) (hg : goodWord w = true) : w ∈ fw_LW := List.mem_filter.mpr ⟨List.mem_append_left _ (List.mem_of_getElem? h), hg⟩
theorem fw_tin {w : Cond} (h : w ∈ tables_1) (hg : goodWord w = true) : w ∈ fw_LW := List.mem_filter.mpr ⟨List.mem_append_right _ h, hg⟩
theorem wz_RX5 : Cond.initialized RX5 ∈ fw_LW := fw_t1 1 (by decide +kernel) (by decide +kernel)
theorem wz_RX0 : Cond.initialized RX0 ∈ fw_LW := fw_t1 3 (by decide +kernel) (by decide +kernel)
theorem wz_RX1 : Cond.initialized RX1 ∈ fw_LW := fw_t1 2 (by decide +kernel) (by decide +kernel)
theorem wz_RX2 : Cond.initialized RX2 ∈ fw_LW := fw_t1 5 (by decide +kernel) (by decide +kernel)
theorem wz_RX3 : Cond.initialized RX3 ∈ fw_LW := fw_t1 4 (by decide +kernel) (by decide +kernel)
theorem wz_RX4 : Cond.initialized RX4 ∈ fw_LW := fw_t1 6 (by decide +kernel) (by decide +kernel)
theorem wz_RL : Cond.initialized RL ∈ fw_LW := fw_t1 0 (by decide +kernel) (by decide +kernel)
theorem wz_RX6 : Cond.initialized RX6 ∈ fw_LW := fw_t1 7 (by decide +kernel) (by decide +kernel)
theorem wz_RJ9 : Cond.initialized RJ9 ∈ fw_LW := fw_t1 13 (by decide +kernel) (by decide +kernel)
theorem wz_RJ10 : Cond.initialized RJ10 ∈ fw_LW := fw_t1 14 (by decide +kernel) (by decide +kernel)
theorem wc_X0_init : Cond.code yX0_init cX0_init 1 ((Option.none : Option Jvm.ClassFile.FieldType)) ∈ fw_LW := fw_t1 37 rfl (by decide +kernel)
theorem wi_X0_init : Cond.instanceMethod yX0_init ∈ fw_LW := fw_t1 36 (by decide +kernel) (by decide +kernel)
theorem wc_X0_begin : Cond.code yX0_begin cX0_begin 3 ((Option.none : Option Jvm.ClassFile.FieldType)) ∈ fw_LW := fw_t3 45 rfl (by decide +kernel)
theorem wi_X0_begin : Cond.instanceMethod yX0_begin ∈ fw_LW := fw_t3 43 (by decide +kernel) (by decide +kernel)
theorem wv_X0_begin : Cond.selects RX0 yX0_begin yX0_begin ∈ fw_LW := fw_t3 44 (by decide +kernel) (by decide +kernel)
theorem wc_X0_become : Cond.code yX0_become cX0_become 2 ((Option.none : Option Jvm.ClassFile.FieldType)) ∈ fw_LW := fw_t1 229 rfl (by decide +kernel)
theorem wi_X0_become : Cond.instanceMethod yX0_become ∈ fw_LW := fw_t1 227 (by decide +kernel) (by decide +kernel)
theorem wv_X0_become : Cond.selects RX0 yX0_become yX0_become ∈ fw_LW := fw_t1 228 (by decide +kernel) (by decide +kernel)
theorem wc_X0_setFree : Cond.code yX0_setFree cX0_setFree 1 ((Option.none : Option Jvm.ClassFile.FieldType)) ∈ fw_LW := fw_t2 25 rfl (by decide +kernel)
theorem wi_X0_setFree : Cond.instanceMethod yX0_setFree ∈ fw_LW := fw_t2 23 (by decide +kernel) (by decide +kernel)
theorem wv_X0_setFree : Cond.selects RX0 yX0_setFree yX0_setFree ∈ fw_LW := fw_t2 24 (by decide +kernel) (by decide +kernel)
theorem wc_X1_init : Cond.code yX1_init cX1_init 2 ((Option.none : Option Jvm.ClassFile.FieldType)) ∈ fw_LW := fw_t1 28 rfl (by decide +kernel)
theorem wi_X1_init : Cond.instanceMethod yX1_init ∈ fw_LW := fw_t1 27 (by decide +kernel) (by decide +kernel)
theorem wc_X1_become : Cond.code yX1_become cX1_become 5 ((Option.none : Option Jvm.ClassFile.FieldType)) ∈ fw_LW := fw_t1 221 rfl (by decide +kernel)
theorem wi_X1_become : Cond.instanceMethod yX1_become ∈ fw_LW := fw_t1 219 (by decide +kernel) (by decide +kernel)
theorem wv_X1_become : Cond.selects RX1 yX1_become yX1_become ∈ fw_LW := fw_t1 220 (by decide +kernel) (by decide +kernel)
theorem wc_X1_courierAt : Cond.code yX1_courierAt cX1_courierAt 2 ((Option.some (Jvm.ClassFile.FieldType.object "CourierRelay$Courier"))) ∈ fw_LW := fw_t1 225 rfl (by decide +kernel)
theorem wi_X1_courierAt : Cond.instanceMethod yX1_courierAt ∈ fw_LW := fw_t1 223 (by decide +kernel) (by decide +kernel)
theorem wv_X1_courierAt : Cond.selects RX1 yX1_courierAt yX1_courierAt ∈ fw_LW := fw_t1 224 (by decide +kernel) (by decide +kernel)
theorem wc_X1_parcelAt : Cond.code yX1_parcelAt cX1_parcelAt 2 ((Option.some (Jvm.ClassFile.FieldType.object "CourierRelay$Parcel"))) ∈ fw_LW := fw_t1 209 rfl (by decide +kernel)
theorem wi_X1_parcelAt : Cond.instanceMethod yX1_parcelAt ∈ fw_LW := fw_t1 207 (by decide +kernel) (by decide +kernel)
theorem wv_X1_parcelAt : Cond.selects RX1 yX1_parcelAt yX1_parcelAt ∈ fw_LW := fw_t1 208 (by decide +kernel) (by decide +kernel)
theorem wc_X1_join : Cond.code yX1_join cX1_join 5 ((Option.some Jvm.ClassFile.FieldType.int)) ∈ fw_LW := fw_t3 41 rfl (by decide +kernel)
theorem wi_X1_join : Cond.instanceMethod yX1_join ∈ fw_LW := fw_t3 39 (by decide +kernel) (by decide +kernel)
theorem wv_X1_join : Cond.selects RX1 yX1_join yX1_join ∈ fw_LW := fw_t3 40 (by decide +kernel) (by decide +kernel)
theorem wc_X1_accept : Cond.code yX1_accept cX1_accept 7 ((Option.some Jvm.ClassFile.FieldType.int)) ∈ fw_LW := fw_t2 146 rfl (by decide +kernel)
theorem wi_X1_accept : Cond.instanceMethod yX1_accept ∈ fw_LW := fw_t2 144 (by decide +kernel) (by decide +kernel)
theorem wv_X1_accept : Cond.selects RX1 yX1_accept yX1_accept ∈ fw_LW := fw_t2 145 (by decide +kernel) (by decide +kernel)
theorem wc_X1_release : Cond.code yX1_release cX1_release 3 ((Option.none : Option Jvm.ClassFile.FieldType)) ∈ fw_LW := fw_t3 97 rfl (by decide +kernel)
theorem wi_X1_release : Cond.instanceMethod yX1_release ∈ fw_LW := fw_t3 95 (by decide +kernel) (by decide +kernel)
theorem wv_X1_release : Cond.selects RX1 yX1_release yX1_release ∈ fw_LW := fw_t3 96 (by decide +kernel) (by decide +kernel)
theorem wc_X1_widen : Cond.code yX1_widen cX1_widen 4 ((Option.none : Option Jvm.ClassFile.FieldType)) ∈ fw_LW := fw_t3 198 rfl (by decide +kernel)
theorem wi_X1_widen : Cond.instanceMethod yX1_widen ∈ fw_LW := fw_t3 196 (by decide +kernel) (by decide +kernel)
theorem wv_X1_widen : Cond.selects RX1 yX1_widen yX1_widen ∈ fw_LW := fw_t3 197 (by decide +kernel) (by decide +kernel)
theorem wc_X1_retire : Cond.code yX1_retire cX1_retire 3 ((Option.none : Option Jvm.ClassFile.FieldType)) ∈ fw_LW := fw_t3 209 rfl (by decide +kernel)
theorem wi_X1_retire : Cond.instanceMethod yX1_retire ∈ fw_LW := fw_t3 207 (by decide +kernel) (by decide +kernel)
theorem wv_X1_retire : Cond.selects RX1 yX1_retire yX1_retire ∈ fw_LW := fw_t3 208 (by decide +kernel) (by decide +kernel)
theorem wc_X1_pass : Cond.code yX1_pass cX1_pass 5 ((Option.some Jvm.ClassFile.FieldType.int)) ∈ fw_LW := fw_t3 111 rfl (by decide +kernel)
theorem wi_X1_pass : Cond.instanceMethod yX1_pass ∈ fw_LW := fw_t3 109 (by decide +kernel) (by decide +kernel)
theorem wv_X1_pass : Cond.selects RX1 yX1_pass yX1_pass ∈ fw_LW := fw_t3 110 (by decide +kernel) (by decide +kernel)
theorem wc_X1_ticksUntilDone : Cond.code yX1_ticksUntilDone cX1_ticksUntilDone 3 ((Option.some Jvm.ClassFile.FieldType.int)) ∈ fw_LW := fw_t2 6 rfl (by decide +kernel)
theorem wi_X1_ticksUntilDone : Cond.instanceMethod yX1_ticksUntilDone ∈ fw_LW := fw_t2 4 (by decide +kernel) (by decide +kernel)
theorem wv_X1_ticksUntilDone : Cond.selects RX1 yX1_ticksUntilDone yX1_ticksUntilDone ∈ fw_LW := fw_t2 5 (by decide +kernel) (by decide +kernel)
theorem wc_X1_tick : Cond.code yX1_tick cX1_tick 7 ((Option.some Jvm.ClassFile.FieldType.boolean)) ∈ fw_LW := fw_t2 11 rfl (by decide +kernel)
theorem wi_X1_tick : Cond.instanceMethod yX1_tick ∈ fw_LW := fw_t2 9 (by decide +kernel) (by decide +kernel)
theorem wv_X1_tick : Cond.selects RX1 yX1_tick yX1_tick ∈ fw_LW := fw_t2 10 (by decide +kernel) (by decide +kernel)
theorem wc_X1_carry : Cond.code yX1_carry cX1_carry 5 ((Option.none : Option Jvm.ClassFile.FieldType)) ∈ fw_LW := fw_t2 15 rfl (by decide +kernel)
theorem wi_X1_carry : Cond.instanceMethod yX1_carry ∈ fw_LW := fw_t2 13 (by decide +kernel) (by decide +kernel)
theorem wv_X1_carry : Cond.selects RX1 yX1_carry yX1_carry ∈ fw_LW := fw_t2 14 (by decide +kernel) (by decide +kernel)
theorem wc_X1_deliver : Cond.code yX1_deliver cX1_deliver 4 ((Option.none : Option Jvm.ClassFile.FieldType)) ∈ fw_LW := fw_t2 33 rfl (by decide +kernel)
theorem wi_X1_deliver : Cond.instanceMethod yX1_deliver ∈ fw_LW := fw_t2 31 (by decide +kernel) (by decide +kernel)
theorem wv_X1_deliver : Cond.selects RX1 yX1_deliver yX1_deliver ∈ fw_LW := fw_t2 32 (by decide +kernel) (by decide +kernel)
theorem wc_X1_approach : Cond.code yX1_approach cX1_approach 3 ((Option.none : Option Jvm.ClassFile.FieldType)) ∈ fw_LW := fw_t2 55 rfl (by decide +kernel)
theorem wi_X1_approach : Cond.instanceMethod yX1_approach ∈ fw_LW := fw_t2 53 (by decide +kernel) (by decide +kernel)
theorem wv_X1_approach : Cond.selects RX1 yX1_approach yX1_approach ∈ fw_LW := fw_t2 54 (by decide +kernel) (by decide +kernel)
theorem wc_X1_choose : Cond.code yX1_choose cX1_choose 6 ((Option.none : Option Jvm.ClassFile.FieldType)) ∈ fw_LW := fw_t2 59 rfl (by decide +kernel)
theorem wi_X1_choose : Cond.instanceMethod yX1_choose ∈ fw_LW := fw_t2 57 (by decide +kernel) (by decide +kernel)
theorem wv_X1_choose : Cond.selects RX1 yX1_choose yX1_choose ∈ fw_LW := fw_t2 58 (by decide +kernel) (by decide +kernel)
theorem wc_X1_isSought : Cond.code yX1_isSought cX1_isSought 4 ((Option.some Jvm.ClassFile.FieldType.boolean)) ∈ fw_LW := fw_t2 69 rfl (by decide +kernel)
theorem wi_X1_isSought : Cond.instanceMethod yX1_isSought ∈ fw_LW := fw_t2 67 (by decide +kernel) (by decide +kernel)
theorem wv_X1_isSought : Cond.selects RX1 yX1_isSought yX1_isSought ∈ fw_LW := fw_t2 68 (by decide +kernel) (by decide +kernel)
theorem wc_X1_failLateParcels : Cond.code yX1_failLateParcels cX1_failLateParcels 3 ((Option.none : Option Jvm.ClassFile.FieldType)) ∈ fw_LW := fw_t2 73 rfl (by decide +kernel)
theorem wi_X1_failLateParcels : Cond.instanceMethod yX1_failLateParcels ∈ fw_LW := fw_t2 71 (by decide +kernel) (by decide +kernel)
theorem wv_X1_failLateParcels : Cond.selects RX1 yX1_failLateParcels yX1_failLateParcels ∈ fw_LW := fw_t2 72 (by decide +kernel) (by decide +kernel)
theorem wc_X1_freeCouriersOf : Cond.code yX1_freeCouriersOf cX1_freeCouriersOf 4 ((Option.none : Option Jvm.ClassFile.FieldType)) ∈ fw_LW := fw_t2 81 rfl (by decide +kernel)
theorem wi_X1_freeCouriersOf : Cond.instanceMethod yX1_freeCouriersOf ∈ fw_LW := fw_t2 79 (by decide +kernel) (by decide +kernel)
theorem wv_X1_freeCouriersOf : Cond.selects RX1 yX1_freeCouriersOf yX1_freeCouriersOf ∈ fw_LW := fw_t2 80 (by decide +kernel) (by decide +kernel)
theorem wc_X1_carriersOf : Cond.code yX1_carriersOf cX1_carriersOf 6 ((Option.some Jvm.ClassFile.FieldType.int)) ∈ fw_LW := fw_t3 167 rfl (by decide +kernel)
theorem wi_X1_carriersOf : Cond.instanceMethod yX1_carriersOf ∈ fw_LW := fw_t3 165 (by decide +kernel) (by decide +kernel)
theorem wv_X1_carriersOf : Cond.selects RX1 yX1_carriersOf yX1_carriersOf ∈ fw_LW := fw_t3 166 (by decide +kernel) (by decide +kernel)
theorem wc_X1_shortestRelay : Cond.code yX1_shortestRelay cX1_shortestRelay 9 ((Option.some Jvm.ClassFile.FieldType.int)) ∈ fw_LW := fw_t3 178 rfl (by decide +kernel)
theorem wi_X1_shortestRelay : Cond.instanceMethod yX1_shortestRelay ∈ fw_LW := fw_t3 176 (by decide +kernel) (by decide +kernel)
theorem wv_X1_shortestRelay : Cond.selects RX1 yX1_shortestRelay yX1_shortestRelay ∈ fw_LW := fw_t3 177 (by decide +kernel) (by decide +kernel)
theorem wc_X1_parcelsIn : Cond.code yX1_parcelsIn cX1_parcelsIn 5 ((Option.some Jvm.ClassFile.FieldType.int)) ∈ fw_LW := fw_t1 205 rfl (by decide +kernel)
theorem wi_X1_parcelsIn : Cond.instanceMethod yX1_parcelsIn ∈ fw_LW := fw_t1 203 (by decide +kernel) (by decide +kernel)
theorem wv_X1_parcelsIn : Cond.selects RX1 yX1_parcelsIn yX1_parcelsIn ∈ fw_LW := fw_t1 204 (by decide +kernel) (by decide +kernel)
theorem wc_X1_parcelsInTime : Cond.code yX1_parcelsInTime cX1_parcelsInTime 4 ((Option.some Jvm.ClassFile.FieldType.int)) ∈ fw_LW := fw_t1 213 rfl (by decide +kernel)
theorem wi_X1_parcelsInTime : Cond.instanceMethod yX1_parcelsInTime ∈ fw_LW := fw_t1 211 (by decide +kernel) (by decide +kernel)
theorem wv_X1_parcelsInTime : Cond.selects RX1 yX1_parcelsInTime yX1_parcelsInTime ∈ fw_LW := fw_t1 212 (by decide +kernel) (by decide +kernel)
theorem wc_X1_legsBy : Cond.code yX1_legsBy cX1_legsBy 5 ((Option.some Jvm.ClassFile.FieldType.int)) ∈ fw_LW := fw_t2 173 rfl (by decide +kernel)
theorem wi_X1_legsBy : Cond.instanceMethod yX1_legsBy ∈ fw_LW := fw_t2 171 (by decide +kernel) (by decide +kernel)
theorem wv_X1_legsBy : Cond.selects RX1 yX1_legsBy yX1_legsBy ∈ fw_LW := fw_t2 172 (by decide +kernel) (by decide +kernel)
theorem wc_X1_figure : Cond.code yX1_figure cX1_figure 2 ((Option.some Jvm.ClassFile.FieldType.int)) ∈ fw_LW := fw_t2 160 rfl (by decide +kernel)
theorem wi_X1_figure : Cond.instanceMethod yX1_figure ∈ fw_LW := fw_t2 158 (by decide +kernel) (by decide +kernel)
theorem wv_X1_figure : Cond.selects RX1 yX1_figure yX1_figure ∈ fw_LW := fw_t2 159 (by decide +kernel) (by decide +kernel)
theorem wc_X1_courierFigure : Cond.code yX1_courierFigure cX1_courierFigure 4 ((Option.some Jvm.ClassFile.FieldType.int)) ∈ fw_LW := fw_t2 169 rfl (by decide +kernel)
theorem wi_X1_courierFigure : Cond.instanceMethod yX1_courierFigure ∈ fw_LW := fw_t2 167 (by decide +kernel) (by decide +kernel)
theorem wv_X1_courierFigure : Cond.selects RX1 yX1_courierFigure yX1_courierFigure ∈ fw_LW := fw_t2 168 (by decide +kernel) (by decide +kernel)
theorem wc_X1_hashCouriers : Cond.code yX1_hashCouriers cX1_hashCouriers 8 ((Option.some Jvm.ClassFile.FieldType.long)) ∈ fw_LW := fw_t2 164 rfl (by decide +kernel)
theorem wi_X1_hashCouriers : Cond.instanceMethod yX1_hashCouriers ∈ fw_LW := fw_t2 162 (by decide +kernel) (by decide +kernel)
theorem wv_X1_hashCouriers : Cond.selects RX1 yX1_hashCouriers yX1_hashCouriers ∈ fw_LW := fw_t2 163 (by decide +kernel) (by decide +kernel)
theorem wc_X1_hashParcels : Cond.code yX1_hashParcels cX1_hashParcels 8 ((Option.some Jvm.ClassFile.FieldType.long)) ∈ fw_LW := fw_t2 181 rfl (by decide +kernel)
theorem wi_X1_hashParcels : Cond.instanceMethod yX1_hashParcels ∈ fw_LW := fw_t2 179 (by decide +kernel) (by decide +kernel)
theorem wv_X1_hashParcels : Cond.selects RX1 yX1_hashParcels yX1_hashParcels ∈ fw_LW := fw_t2 180 (by decide +kernel) (by decide +kernel)
theorem wc_X2_init : Cond.code yX2_init cX2_init 2 ((Option.none : Option Jvm.ClassFile.FieldType)) ∈ fw_LW := fw_t1 145 rfl (by decide +kernel)
theorem wi_X2_init : Cond.instanceMethod yX2_init ∈ fw_LW := fw_t1 144 (by decide +kernel) (by decide +kernel)
theorem wc_X2_stateAt : Cond.code yX2_stateAt cX2_stateAt 3 ((Option.some (Jvm.ClassFile.FieldType.object "CourierRelay$Exchange"))) ∈ fw_LW := fw_t2 140 rfl (by decide +kernel)
theorem wi_X2_stateAt : Cond.instanceMethod yX2_stateAt ∈ fw_LW := fw_t2 138 (by decide +kernel) (by decide +kernel)
theorem wv_X2_stateAt : Cond.selects RX2 yX2_stateAt yX2_stateAt ∈ fw_LW := fw_t2 139 (by decide +kernel) (by decide +kernel)
theorem wc_X2_save : Cond.code yX2_save cX2_save 3 ((Option.none : Option Jvm.ClassFile.FieldType)) ∈ fw_LW := fw_t2 136 rfl (by decide +kernel)
theorem wi_X2_save : Cond.instanceMethod yX2_save ∈ fw_LW := fw_t2 134 (by decide +kernel) (by decide +kernel)
theorem wv_X2_save : Cond.selects RX2 yX2_save yX2_save ∈ fw_LW := fw_t2 135 (by decide +kernel) (by decide +kernel)
theorem wc_X2_restore : Cond.code yX2_restore cX2_restore 3 ((Option.none : Option Jvm.ClassFile.FieldType)) ∈ fw_LW := fw_t3 232 rfl (by decide +kernel)
theorem wi_X2_restore : Cond.instanceMethod yX2_restore ∈ fw_LW := fw_t3 230 (by decide +kernel) (by decide +kernel)
theorem wv_X2_restore : Cond.selects RX2 yX2_restore yX2_restore ∈ fw_LW := fw_t3 231 (by decide +kernel) (by decide +kernel)
theorem wc_X3_init : Cond.code yX3_init cX3_init 1 ((Option.none : Option Jvm.ClassFile.FieldType)) ∈ fw_LW := fw_t1 65 rfl (by decide +kernel)
theorem wi_X3_init : Cond.instanceMethod yX3_init ∈ fw_LW := fw_t1 64 (by decide +kernel) (by decide +kernel)
theorem wc_X3_begin : Cond.code yX3_begin cX3_begin 6 ((Option.none : Option Jvm.ClassFile.FieldType)) ∈ fw_LW := fw_t2 150 rfl (by decide +kernel)
theorem wi_X3_begin : Cond.instanceMethod yX3_begin ∈ fw_LW := fw_t2 148 (by decide +kernel) (by decide +kernel)
theorem wv_X3_begin : Cond.selects RX3 yX3_begin yX3_begin ∈ fw_LW := fw_t2 149 (by decide +kernel) (by decide +kernel)
theorem wc_X3_become : Cond.code yX3_become cX3_become 2 ((Option.none : Option Jvm.ClassFile.FieldType)) ∈ fw_LW := fw_t1 233 rfl (by decide +kernel)
theorem wi_X3_become : Cond.instanceMethod yX3_become ∈ fw_LW := fw_t1 231 (by decide +kernel) (by decide +kernel)
theorem wv_X3_become : Cond.selects RX3 yX3_become yX3_become ∈ fw_LW := fw_t1 232 (by decide +kernel) (by decide +kernel)
theorem wc_X3_isOpen : Cond.code yX3_isOpen cX3_isOpen 1 ((Option.some Jvm.ClassFile.FieldType.boolean)) ∈ fw_LW := fw_t2 77 rfl (by decide +kernel)
theorem wi_X3_isOpen : Cond.instanceMethod yX3_isOpen ∈ fw_LW := fw_t2 75 (by decide +kernel) (by decide +kernel)
theorem wv_X3_isOpen : Cond.selects RX3 yX3_isOpen yX3_isOpen ∈ fw_LW := fw_t2 76 (by decide +kernel) (by decide +kernel)
theorem wc_X3_suits : Cond.code yX3_suits cX3_suits 2 ((Option.some Jvm.ClassFile.FieldType.boolean)) ∈ fw_LW := fw_t2 63 rfl (by decide +kernel)
theorem wi_X3_suits : Cond.instanceMethod yX3_suits ∈ fw_LW := fw_t2 61 (by decide +kernel) (by decide +kernel)
theorem wv_X3_suits : Cond.selects RX3 yX3_suits yX3_suits ∈ fw_LW := fw_t2 62 (by decide +kernel) (by decide +kernel)
theorem wc_X3_legsOf : Cond.code yX3_legsOf cX3_legsOf 2 ((Option.some Jvm.ClassFile.FieldType.int)) ∈ fw_LW := fw_t2 177 rfl (by decide +kernel)
theorem wi_X3_legsOf : Cond.instanceMethod yX3_legsOf ∈ fw_LW := fw_t2 175 (by decide +kernel) (by decide +kernel)
theorem wv_X3_legsOf : Cond.selects RX3 yX3_legsOf yX3_legsOf ∈ fw_LW := fw_t2 176 (by decide +kernel) (by decide +kernel)
theorem wc_X3_shareOf : Cond.code yX3_shareOf cX3_shareOf 2 ((Option.some Jvm.ClassFile.FieldType.int)) ∈ fw_LW := fw_t2 48 rfl (by decide +kernel)
theorem wi_X3_shareOf : Cond.instanceMethod yX3_shareOf ∈ fw_LW := fw_t2 46 (by decide +kernel) (by decide +kernel)
theorem wv_X3_shareOf : Cond.selects RX3 yX3_shareOf yX3_shareOf ∈ fw_LW := fw_t2 47 (by decide +kernel) (by decide +kernel)
theorem wc_X3_addLeg : Cond.code yX3_addLeg cX3_addLeg 2 ((Option.none : Option Jvm.ClassFile.FieldType)) ∈ fw_LW := fw_t2 29 rfl (by decide +kernel)
theorem wi_X3_addLeg : Cond.instanceMethod yX3_addLeg ∈ fw_LW := fw_t2 27 (by decide +kernel) (by decide +kernel)
theorem wv_X3_addLeg : Cond.selects RX3 yX3_addLeg yX3_addLeg ∈ fw_LW := fw_t2 28 (by decide +kernel) (by decide +kernel)
theorem wc_X3_sharePaid : Cond.code yX3_sharePaid cX3_sharePaid 4 ((Option.none : Option Jvm.ClassFile.FieldType)) ∈ fw_LW := fw_t2 37 rfl (by decide +kernel)
theorem wi_X3_sharePaid : Cond.instanceMethod yX3_sharePaid ∈ fw_LW := fw_t2 35 (by decide +kernel) (by decide +kernel)
theorem wv_X3_sharePaid : Cond.selects RX3 yX3_sharePaid yX3_sharePaid ∈ fw_LW := fw_t2 36 (by decide +kernel) (by decide +kernel)
theorem wc_X3_rankOf : Cond.code yX3_rankOf cX3_rankOf 7 ((Option.some Jvm.ClassFile.FieldType.int)) ∈ fw_LW := fw_t2 44 rfl (by decide +kernel)
theorem wi_X3_rankOf : Cond.instanceMethod yX3_rankOf ∈ fw_LW := fw_t2 42 (by decide +kernel) (by decide +kernel)
theorem wv_X3_rankOf : Cond.selects RX3 yX3_rankOf yX3_rankOf ∈ fw_LW := fw_t2 43 (by decide +kernel) (by decide +kernel)
theorem wc_X3_figure : Cond.code yX3_figure cX3_figure 2 ((Option.some Jvm.ClassFile.FieldType.int)) ∈ fw_LW := fw_t2 185 rfl (by decide +kernel)
theorem wi_X3_figure : Cond.instanceMethod yX3_figure ∈ fw_LW := fw_t2 183 (by decide +kernel) (by decide +kernel)
theorem wv_X3_figure : Cond.selects RX3 yX3_figure yX3_figure ∈ fw_LW := fw_t2 184 (by decide +kernel) (by decide +kernel)
theorem wc_X4_init : Cond.code yX4_init cX4_init 1 ((Option.none : Option Jvm.ClassFile.FieldType)) ∈ fw_LW := fw_t1 165 rfl (by decide +kernel)
theorem wi_X4_init : Cond.instanceMethod yX4_init ∈ fw_LW := fw_t1 164 (by decide +kernel) (by decide +kernel)
theorem wc_X4_add : Cond.code yX4_add cX4_add 2 ((Option.none : Option Jvm.ClassFile.FieldType)) ∈ fw_LW := fw_t3 221 rfl (by decide +kernel)
theorem wi_X4_add : Cond.instanceMethod yX4_add ∈ fw_LW := fw_t3 219 (by decide +kernel) (by decide +kernel)
theorem wv_X4_add : Cond.selects RX4 yX4_add yX4_add ∈ fw_LW := fw_t3 220 (by decide +kernel) (by decide +kernel)
theorem wc_X4_numberOf : Cond.code yX4_numberOf cX4_numberOf 3 ((Option.some Jvm.ClassFile.FieldType.int)) ∈ fw_LW := fw_t2 119 rfl (by decide +kernel)
theorem wi_X4_numberOf : Cond.instanceMethod yX4_numberOf ∈ fw_LW := fw_t2 117 (by decide +kernel) (by decide +kernel)
theorem wv_X4_numberOf : Cond.selects RX4 yX4_numberOf yX4_numberOf ∈ fw_LW := fw_t2 118 (by decide +kernel) (by decide +kernel)
theorem wc_X4_read : Cond.code yX4_read cX4_read 3 ((Option.some Jvm.ClassFile.FieldType.int)) ∈ fw_LW := fw_t2 93 rfl (by decide +kernel)
theorem wi_X4_read : Cond.instanceMethod yX4_read ∈ fw_LW := fw_t2 91 (by decide +kernel) (by decide +kernel)
theorem wv_X4_read : Cond.selects RX4 yX4_read yX4_read ∈ fw_LW := fw_t2 92 (by decide +kernel) (by decide +kernel)
theorem wc_X4_readItem : Cond.code yX4_readItem cX4_readItem 3 ((Option.some Jvm.ClassFile.FieldType.int)) ∈ fw_LW := fw_t2 97 rfl (by decide +kernel)
theorem wi_X4_readItem : Cond.instanceMethod yX4_readItem ∈ fw_LW := fw_t2 95 (by decide +kernel) (by decide +kernel)
theorem wv_X4_readItem : Cond.selects RX4 yX4_readItem yX4_readItem ∈ fw_LW := fw_t2 96 (by decide +kernel) (by decide +kernel)
theorem wc_X4_readNumber : Cond.code yX4_readNumber cX4_readNumber 4 ((Option.some Jvm.ClassFile.FieldType.int)) ∈ fw_LW := fw_t2 101 rfl (by decide +kernel)
theorem wi_X4_readNumber : Cond.instanceMethod yX4_readNumber ∈ fw_LW := fw_t2 99 (by decide +kernel) (by decide +kernel)
theorem wv_X4_readNumber : Cond.selects RX4 yX4_readNumber yX4_readNumber ∈ fw_LW := fw_t2 100 (by decide +kernel) (by decide +kernel)
theorem wc_X4_keep : Cond.code yX4_keep cX4_keep 4 ((Option.none : Option Jvm.ClassFile.FieldType)) ∈ fw_LW := fw_t2 132 rfl (by decide +kernel)
theorem wi_X4_keep : Cond.instanceMethod yX4_keep ∈ fw_LW := fw_t2 130 (by decide +kernel) (by decide +kernel)
theorem wv_X4_keep : Cond.selects RX4 yX4_keep yX4_keep ∈ fw_LW := fw_t2 131 (by decide +kernel) (by decide +kernel)
theorem wc_X4_fits : Cond.code yX4_fits cX4_fits 3 ((Option.some Jvm.ClassFile.FieldType.boolean)) ∈ fw_LW := fw_t2 112 rfl (by decide +kernel)
theorem wi_X4_fits : Cond.instanceMethod yX4_fits ∈ fw_LW := fw_t2 110 (by decide +kernel) (by decide +kernel)
theorem wv_X4_fits : Cond.selects RX4 yX4_fits yX4_fits ∈ fw_LW := fw_t2 111 (by decide +kernel) (by decide +kernel)
theorem wc_X4_isDigit : Cond.code yX4_isDigit cX4_isDigit 1 ((Option.some Jvm.ClassFile.FieldType.boolean)) ∈ fw_LW := fw_t2 105 rfl (by decide +kernel)
theorem ws_X4_isDigit : Cond.static yX4_isDigit ∈ fw_LW := fw_t2 104 (by decide +kernel) (by decide +kernel)
theorem wc_X4_mostDigits : Cond.code yX4_mostDigits cX4_mostDigits 1 ((Option.some Jvm.ClassFile.FieldType.int)) ∈ fw_LW := fw_t2 108 rfl (by decide +kernel)
theorem ws_X4_mostDigits : Cond.static yX4_mostDigits ∈ fw_LW := fw_t2 107 (by decide +kernel) (by decide +kernel)
theorem wc_X4_endOf : Cond.code yX4_endOf cX4_endOf 1 ((Option.some Jvm.ClassFile.FieldType.int)) ∈ fw_LW := fw_t2 128 rfl (by decide +kernel)
theorem ws_X4_endOf : Cond.static yX4_endOf ∈ fw_LW := fw_t2 127 (by decide +kernel) (by decide +kernel)
theorem wc_X5_init : Cond.code yX5_init cX5_init 1 ((Option.none : Option Jvm.ClassFile.FieldType)) ∈ fw_LW := fw_t1 20 rfl (by decide +kernel)
theorem wi_X5_init : Cond.instanceMethod yX5_init ∈ fw_LW := fw_t1 19 (by decide +kernel) (by decide +kernel)
theorem wc_X5_addCourier : Cond.code yX5_addCourier cX5_addCourier 3 ((Option.some Jvm.ClassFile.FieldType.int)) ∈ fw_LW := fw_t2 194 rfl (by decide +kernel)
theorem wi_X5_addCourier : Cond.instanceMethod yX5_addCourier ∈ fw_LW := fw_t2 192 (by decide +kernel) (by decide +kernel)
theorem wv_X5_addCourier : Cond.selects RX5 yX5_addCourier yX5_addCourier ∈ fw_LW := fw_t2 193 (by decide +kernel) (by decide +kernel)
theorem wc_X5_setArea : Cond.code yX5_setArea cX5_setArea 5 ((Option.some Jvm.ClassFile.FieldType.int)) ∈ fw_LW := fw_t3 54 rfl (by decide +kernel)
theorem wi_X5_setArea : Cond.instanceMethod yX5_setArea ∈ fw_LW := fw_t3 52 (by decide +kernel) (by decide +kernel)
theorem wv_X5_setArea : Cond.selects RX5 yX5_setArea yX5_setArea ∈ fw_LW := fw_t3 53 (by decide +kernel) (by decide +kernel)
theorem wc_X5_give : Cond.code yX5_give cX5_give 5 ((Option.some Jvm.ClassFile.FieldType.int)) ∈ fw_LW := fw_t3 77 rfl (by decide +kernel)
theorem wi_X5_give : Cond.instanceMethod yX5_give ∈ fw_LW := fw_t3 75 (by decide +kernel) (by decide +kernel)
theorem wv_X5_give : Cond.selects RX5 yX5_give yX5_give ∈ fw_LW := fw_t3 76 (by decide +kernel) (by decide +kernel)
theorem wc_X5_setGrace : Cond.code yX5_setGrace cX5_setGrace 3 ((Option.some Jvm.ClassFile.FieldType.int)) ∈ fw_LW := fw_t3 86 rfl (by decide +kernel)
theorem wi_X5_setGrace : Cond.instanceMethod yX5_setGrace ∈ fw_LW := fw_t3 84 (by decide +kernel) (by decide +kernel)
theorem wv_X5_setGrace : Cond.selects RX5 yX5_setGrace yX5_setGrace ∈ fw_LW := fw_t3 85 (by decide +kernel) (by decide +kernel)
theorem wc_X5_drop : Cond.code yX5_drop cX5_drop 4 ((Option.some Jvm.ClassFile.FieldType.int)) ∈ fw_LW := fw_t3 93 rfl (by decide +kernel)
theorem wi_X5_drop : Cond.instanceMethod yX5_drop ∈ fw_LW := fw_t3 91 (by decide +kernel) (by decide +kernel)
theorem wv_X5_drop : Cond.selects RX5 yX5_drop yX5_drop ∈ fw_LW := fw_t3 92 (by decide +kernel) (by decide +kernel)
theorem wc_X5_run : Cond.code yX5_run cX5_run 3 ((Option.some Jvm.ClassFile.FieldType.int)) ∈ fw_LW := fw_t3 104 rfl (by decide +kernel)
theorem wi_X5_run : Cond.instanceMethod yX5_run ∈ fw_LW := fw_t3 102 (by decide +kernel) (by decide +kernel)
theorem wv_X5_run : Cond.selects RX5 yX5_run yX5_run ∈ fw_LW := fw_t3 103 (by decide +kernel) (by decide +kernel)
theorem wc_X5_value : Cond.code yX5_value cX5_value 2 ((Option.some Jvm.ClassFile.FieldType.int)) ∈ fw_LW := fw_t3 118 rfl (by decide +kernel)
theorem wi_X5_value : Cond.instanceMethod yX5_value ∈ fw_LW := fw_t3 116 (by decide +kernel) (by decide +kernel)
theorem wv_X5_value : Cond.selects RX5 yX5_value yX5_value ∈ fw_LW := fw_t3 117 (by decide +kernel) (by decide +kernel)
theorem wc_X5_courier : Cond.code yX5_courier cX5_courier 4 ((Option.some Jvm.ClassFile.FieldType.int)) ∈ fw_LW := fw_t3 125 rfl (by decide +kernel)
theorem wi_X5_courier : Cond.instanceMethod yX5_courier ∈ fw_LW := fw_t3 123 (by decide +kernel) (by decide +kernel)
theorem wv_X5_courier : Cond.selects RX5 yX5_courier yX5_courier ∈ fw_LW := fw_t3 124 (by decide +kernel) (by decide +kernel)
theorem wc_X5_parcel : Cond.code yX5_parcel cX5_parcel 4 ((Option.some Jvm.ClassFile.FieldType.int)) ∈ fw_LW := fw_t3 133 rfl (by decide +kernel)
theorem wi_X5_parcel : Cond.instanceMethod yX5_parcel ∈ fw_LW := fw_t3 131 (by decide +kernel) (by decide +kernel)
theorem wv_X5_parcel : Cond.selects RX5 yX5_parcel yX5_parcel ∈ fw_LW := fw_t3 132 (by decide +kernel) (by decide +kernel)
theorem wc_X5_legs : Cond.code yX5_legs cX5_legs 5 ((Option.some Jvm.ClassFile.FieldType.int)) ∈ fw_LW := fw_t3 142 rfl (by decide +kernel)
theorem wi_X5_legs : Cond.instanceMethod yX5_legs ∈ fw_LW := fw_t3 140 (by decide +kernel) (by decide +kernel)
theorem wv_X5_legs : Cond.selects RX5 yX5_legs yX5_legs ∈ fw_LW := fw_t3 141 (by decide +kernel) (by decide +kernel)
theorem wc_X5_distance : Cond.code yX5_distance cX5_distance 3 ((Option.some Jvm.ClassFile.FieldType.int)) ∈ fw_LW := fw_t3 151 rfl (by decide +kernel)
theorem wi_X5_distance : Cond.instanceMethod yX5_distance ∈ fw_LW := fw_t3 149 (by decide +kernel) (by decide +kernel)
theorem wv_X5_distance : Cond.selects RX5 yX5_distance yX5_distance ∈ fw_LW := fw_t3 150 (by decide +kernel) (by decide +kernel)
theorem wc_X5_suited : Cond.code yX5_suited cX5_suited 3 ((Option.some Jvm.ClassFile.FieldType.int)) ∈ fw_LW := fw_t3 161 rfl (by decide +kernel)
theorem wi_X5_suited : Cond.instanceMethod yX5_suited ∈ fw_LW := fw_t3 159 (by decide +kernel) (by decide +kernel)
theorem wv_X5_suited : Cond.selects RX5 yX5_suited yX5_suited ∈ fw_LW := fw_t3 160 (by decide +kernel) (by decide +kernel)
theorem wc_X5_leastRelay : Cond.code yX5_leastRelay cX5_leastRelay 3 ((Option.some Jvm.ClassFile.FieldType.int)) ∈ fw_LW := fw_t3 174 rfl (by decide +kernel)
theorem wi_X5_leastRelay : Cond.instanceMethod yX5_leastRelay ∈ fw_LW := fw_t3 172 (by decide +kernel) (by decide +kernel)
theorem wv_X5_leastRelay : Cond.selects RX5 yX5_leastRelay yX5_leastRelay ∈ fw_LW := fw_t3 173 (by decide +kernel) (by decide +kernel)
theorem wc_X5_punctuality : Cond.code yX5_punctuality cX5_punctuality 2 ((Option.some Jvm.ClassFile.FieldType.double)) ∈ fw_LW := fw_t1 201 rfl (by decide +kernel)
theorem wi_X5_punctuality : Cond.instanceMethod yX5_punctuality ∈ fw_LW := fw_t1 199 (by decide +kernel) (by decide +kernel)
theorem wv_X5_punctuality : Cond.selects RX5 yX5_punctuality yX5_punctuality ∈ fw_LW := fw_t1 200 (by decide +kernel) (by decide +kernel)
theorem wc_X5_paidIn : Cond.code yX5_paidIn cX5_paidIn 2 ((Option.some Jvm.ClassFile.FieldType.int)) ∈ fw_LW := fw_t3 186 rfl (by decide +kernel)
theorem wi_X5_paidIn : Cond.instanceMethod yX5_paidIn ∈ fw_LW := fw_t3 184 (by decide +kernel) (by decide +kernel)
theorem wv_X5_paidIn : Cond.selects RX5 yX5_paidIn yX5_paidIn ∈ fw_LW := fw_t3 185 (by decide +kernel) (by decide +kernel)
theorem wc_X5_bestZone : Cond.code yX5_bestZone cX5_bestZone 8 ((Option.some Jvm.ClassFile.FieldType.int)) ∈ fw_LW := fw_t3 193 rfl (by decide +kernel)
theorem wi_X5_bestZone : Cond.instanceMethod yX5_bestZone ∈ fw_LW := fw_t3 191 (by decide +kernel) (by decide +kernel)
theorem wv_X5_bestZone : Cond.selects RX5 yX5_bestZone yX5_bestZone ∈ fw_LW := fw_t3 192 (by decide +kernel) (by decide +kernel)
theorem wc_X5_worth : Cond.code yX5_worth cX5_worth 4 ((Option.some Jvm.ClassFile.FieldType.int)) ∈ fw_LW := fw_t3 205 rfl (by decide +kernel)
theorem wi_X5_worth : Cond.instanceMethod yX5_worth ∈ fw_LW := fw_t3 203 (by decide +kernel) (by decide +kernel)
theorem wv_X5_worth : Cond.selects RX5 yX5_worth yX5_worth ∈ fw_LW := fw_t3 204 (by decide +kernel) (by decide +kernel)
theorem wc_X5_doneIn : Cond.code yX5_doneIn cX5_doneIn 1 ((Option.some Jvm.ClassFile.FieldType.int)) ∈ fw_LW := fw_t1 217 rfl (by decide +kernel)
theorem wi_X5_doneIn : Cond.instanceMethod yX5_doneIn ∈ fw_LW := fw_t1 215 (by decide +kernel) (by decide +kernel)
theorem wv_X5_doneIn : Cond.selects RX5 yX5_doneIn yX5_doneIn ∈ fw_LW := fw_t1 216 (by decide +kernel) (by decide +kernel)
theorem wc_X5_append : Cond.code yX5_append cX5_append 2 ((Option.some Jvm.ClassFile.FieldType.int)) ∈ fw_LW := fw_t3 217 rfl (by decide +kernel)
theorem wi_X5_append : Cond.instanceMethod yX5_append ∈ fw_LW := fw_t3 215 (by decide +kernel) (by decide +kernel)
theorem wv_X5_append : Cond.selects RX5 yX5_append yX5_append ∈ fw_LW := fw_t3 216 (by decide +kernel) (by decide +kernel)
theorem wc_X5_clearText : Cond.code yX5_clearText cX5_clearText 2 ((Option.some Jvm.ClassFile.FieldType.int)) ∈ fw_LW := fw_t2 85 rfl (by decide +kernel)
theorem wi_X5_clearText : Cond.instanceMethod yX5_clearText ∈ fw_LW := fw_t2 83 (by decide +kernel) (by decide +kernel)
theorem wv_X5_clearText : Cond.selects RX5 yX5_clearText yX5_clearText ∈ fw_LW := fw_t2 84 (by decide +kernel) (by decide +kernel)
theorem wc_X5_parse : Cond.code yX5_parse cX5_parse 3 ((Option.some Jvm.ClassFile.FieldType.int)) ∈ fw_LW := fw_t2 89 rfl (by decide +kernel)
theorem wi_X5_parse : Cond.instanceMethod yX5_parse ∈ fw_LW := fw_t2 87 (by decide +kernel) (by decide +kernel)
theorem wv_X5_parse : Cond.selects RX5 yX5_parse yX5_parse ∈ fw_LW := fw_t2 88 (by decide +kernel) (by decide +kernel)
theorem wc_X5_undo : Cond.code yX5_undo cX5_undo 1 ((Option.some Jvm.ClassFile.FieldType.int)) ∈ fw_LW := fw_t3 228 rfl (by decide +kernel)
theorem wi_X5_undo : Cond.instanceMethod yX5_undo ∈ fw_LW := fw_t3 226 (by decide +kernel) (by decide +kernel)
theorem wv_X5_undo : Cond.selects RX5 yX5_undo yX5_undo ∈ fw_LW := fw_t3 227 (by decide +kernel) (by decide +kernel)
theorem wc_X5_digest : Cond.code yX5_digest cX5_digest 4 ((Option.some Jvm.ClassFile.FieldType.long)) ∈ fw_LW := fw_t2 154 rfl (by decide +kernel)
theorem wi_X5_digest : Cond.instanceMethod yX5_digest ∈ fw_LW := fw_t2 152 (by decide +kernel) (by decide +kernel)
theorem wv_X5_digest : Cond.selects RX5 yX5_digest yX5_digest ∈ fw_LW := fw_t2 153 (by decide +kernel) (by decide +kernel)
theorem wc_X5_isZone : Cond.code yX5_isZone cX5_isZone 1 ((Option.some Jvm.ClassFile.FieldType.boolean)) ∈ fw_LW := fw_t2 115 rfl (by decide +kernel)
theorem ws_X5_isZone : Cond.static yX5_isZone ∈ fw_LW := fw_t2 114 (by decide +kernel) (by decide +kernel)
theorem wc_X5_isArea : Cond.code yX5_isArea cX5_isArea 1 ((Option.some Jvm.ClassFile.FieldType.boolean)) ∈ fw_LW := fw_t2 197 rfl (by decide +kernel)
theorem ws_X5_isArea : Cond.static yX5_isArea ∈ fw_LW := fw_t2 196 (by decide +kernel) (by decide +kernel)
theorem wc_X5_isCutOff : Cond.code yX5_isCutOff cX5_isCutOff 1 ((Option.some Jvm.ClassFile.FieldType.boolean)) ∈ fw_LW := fw_t2 122 rfl (by decide +kernel)
theorem ws_X5_isCutOff : Cond.static yX5_isCutOff ∈ fw_LW := fw_t2 121 (by decide +kernel) (by decide +kernel)
theorem wc_X5_isTip : Cond.code yX5_isTip cX5_isTip 1 ((Option.some Jvm.ClassFile.FieldType.boolean)) ∈ fw_LW := fw_t2 125 rfl (by decide +kernel)
theorem ws_X5_isTip : Cond.static yX5_isTip ∈ fw_LW := fw_t2 124 (by decide +kernel) (by decide +kernel)
theorem wc_X5_isTicks : Cond.code yX5_isTicks cX5_isTicks 1 ((Option.some Jvm.ClassFile.FieldType.boolean)) ∈ fw_LW := fw_t3 107 rfl (by decide +kernel)
theorem ws_X5_isTicks : Cond.static yX5_isTicks ∈ fw_LW := fw_t3 106 (by decide +kernel) (by decide +kernel)
theorem wc_X5_holds : Cond.code yX5_holds cX5_holds 2 ((Option.some Jvm.ClassFile.FieldType.boolean)) ∈ fw_LW := fw_t2 21 rfl (by decide +kernel)
theorem ws_X5_holds : Cond.static yX5_holds ∈ fw_LW := fw_t2 20 (by decide +kernel) (by decide +kernel)
theorem wc_X5_nextZone : Cond.code yX5_nextZone cX5_nextZone 4 ((Option.some Jvm.ClassFile.FieldType.int)) ∈ fw_LW := fw_t2 18 rfl (by decide +kernel)
theorem ws_X5_nextZone : Cond.static yX5_nextZone ∈ fw_LW := fw_t2 17 (by decide +kernel) (by decide +kernel)
theorem wc_X5_at : Cond.code yX5_at cX5_at 2 ((Option.some Jvm.ClassFile.FieldType.int)) ∈ fw_LW := fw_t2 51 rfl (by decide +kernel)
theorem ws_X5_at : Cond.static yX5_at ∈ fw_LW := fw_t2 50 (by decide +kernel) (by decide +kernel)
theorem wc_X5_sum : Cond.code yX5_sum cX5_sum 3 ((Option.some Jvm.ClassFile.FieldType.int)) ∈ fw_LW := fw_t2 40 rfl (by decide +kernel)
theorem ws_X5_sum : Cond.static yX5_sum ∈ fw_LW := fw_t2 39 (by decide +kernel) (by decide +kernel)
theorem wc_X5_copyRow : Cond.code yX5_copyRow cX5_copyRow 2 ((Option.none : Option Jvm.ClassFile.FieldType)) ∈ fw_LW := fw_t1 236 rfl (by decide +kernel)
theorem ws_X5_copyRow : Cond.static yX5_copyRow ∈ fw_LW := fw_t1 235 (by decide +kernel) (by decide +kernel)
theorem wc_X6_init : Cond.code yX6_init cX6_init 1 ((Option.none : Option Jvm.ClassFile.FieldType)) ∈ fw_LW := fw_t3 237 rfl (by decide +kernel)
theorem wi_X6_init : Cond.instanceMethod yX6_init ∈ fw_LW := fw_t3 236 (by decide +kernel) (by decide +kernel)
theorem wc_X6_thrown : Cond.code yX6_thrown cX6_thrown 1 ((Option.some Jvm.ClassFile.FieldType.int)) ∈ fw_LW := fw_t4 36 rfl (by decide +kernel)
theorem wi_X6_thrown : Cond.instanceMethod yX6_thrown ∈ fw_LW := fw_t4 34 (by decide +kernel) (by decide +kernel)
theorem wv_X6_thrown : Cond.selects RX6 yX6_thrown yX6_thrown ∈ fw_LW := fw_t4 35 (by decide +kernel) (by decide +kernel)
theorem wc_X6_in : Cond.code yX6_in cX6_in 3 ((Option.some Jvm.ClassFile.FieldType.boolean)) ∈ fw_LW := fw_t4 47 rfl (by decide +kernel)
theorem ws_X6_in : Cond.static yX6_in ∈ fw_LW := fw_t4 46 (by decide +kernel) (by decide +kernel)
theorem wc_X6_fails : Cond.code yX6_fails cX6_fails 2 ((Option.some Jvm.ClassFile.FieldType.int)) ∈ fw_LW := fw_t4 54 rfl (by decide +kernel)
theorem wi_X6_fails : Cond.instanceMethod yX6_fails ∈ fw_LW := fw_t4 53 (by decide +kernel) (by decide +kernel)
theorem wv_X6_fails : Cond.selects RX6 yX6_fails yX6_fails ∈ fw_LW := fw_tp 1 (by decide +kernel) (by decide +kernel)
theorem wc_X6_tells : Cond.code yX6_tells cX6_tells 2 ((Option.some Jvm.ClassFile.FieldType.int)) ∈ fw_LW := fw_t4 77 rfl (by decide +kernel)
theorem wi_X6_tells : Cond.instanceMethod yX6_tells ∈ fw_LW := fw_t4 76 (by decide +kernel) (by decide +kernel)
theorem wv_X6_tells : Cond.selects RX6 yX6_tells yX6_tells ∈ fw_LW := fw_tp 6 (by decide +kernel) (by decide +kernel)
theorem wc_X6_copies : Cond.code yX6_copies cX6_copies 3 ((Option.none : Option Jvm.ClassFile.FieldType)) ∈ fw_LW := fw_t4 61 rfl (by decide +kernel)
theorem ws_X6_copies : Cond.static yX6_copies ∈ fw_LW := fw_t4 60 (by decide +kernel) (by decide +kernel)
theorem wc_X6_hold : Cond.code yX6_hold cX6_hold 1 ((Option.none : Option Jvm.ClassFile.FieldType)) ∈ fw_LW := fw_t4 58 rfl (by decide +kernel)
theorem wi_X6_hold : Cond.instanceMethod yX6_hold ∈ fw_LW := fw_t4 57 (by decide +kernel) (by decide +kernel)
theorem wv_X6_hold : Cond.selects RX6 yX6_hold yX6_hold ∈ fw_LW := fw_tp 2 (by decide +kernel) (by decide +kernel)
theorem wc_X6_ends : Cond.code yX6_ends cX6_ends 3 ((Option.some Jvm.ClassFile.FieldType.int)) ∈ fw_LW := fw_t4 73 rfl (by decide +kernel)
theorem wi_X6_ends : Cond.instanceMethod yX6_ends ∈ fw_LW := fw_t4 72 (by decide +kernel) (by decide +kernel)
theorem wv_X6_ends : Cond.selects RX6 yX6_ends yX6_ends ∈ fw_LW := fw_tp 5 (by decide +kernel) (by decide +kernel)
theorem wc_X6_isCourier : Cond.code yX6_isCourier cX6_isCourier 2 ((Option.some Jvm.ClassFile.FieldType.boolean)) ∈ fw_LW := fw_t4 85 rfl (by decide +kernel)
theorem wi_X6_isCourier : Cond.instanceMethod yX6_isCourier ∈ fw_LW := fw_t4 84 (by decide +kernel) (by decide +kernel)
theorem wv_X6_isCourier : Cond.selects RX6 yX6_isCourier yX6_isCourier ∈ fw_LW := fw_tp 7 (by decide +kernel) (by decide +kernel)
theorem wc_X6_isParcel : Cond.code yX6_isParcel cX6_isParcel 2 ((Option.some Jvm.ClassFile.FieldType.boolean)) ∈ fw_LW := fw_t4 200 rfl (by decide +kernel)
theorem wi_X6_isParcel : Cond.instanceMethod yX6_isParcel ∈ fw_LW := fw_t4 199 (by decide +kernel) (by decide +kernel)
theorem wv_X6_isParcel : Cond.selects RX6 yX6_isParcel yX6_isParcel ∈ fw_LW := fw_tp 28 (by decide +kernel) (by decide +kernel)
theorem wc_X6_isZone : Cond.code yX6_isZone cX6_isZone 1 ((Option.some Jvm.ClassFile.FieldType.boolean)) ∈ fw_LW := fw_t4 50 rfl (by decide +kernel)
theorem ws_X6_isZone : Cond.static yX6_isZone ∈ fw_LW := fw_t4 49 (by decide +kernel) (by decide +kernel)
theorem wc_X6_of : Cond.code yX6_of cX6_of 3 ((Option.some Jvm.ClassFile.FieldType.int)) ∈ fw_LW := fw_t4 89 rfl (by decide +kernel)
theorem wi_X6_of : Cond.instanceMethod yX6_of ∈ fw_LW := fw_t4 88 (by decide +kernel) (by decide +kernel)
theorem wv_X6_of : Cond.selects RX6 yX6_of yX6_of ∈ fw_LW := fw_tp 8 (by decide +kernel) (by decide +kernel)
theorem wc_X6_sets : Cond.code yX6_sets cX6_sets 4 ((Option.none : Option Jvm.ClassFile.FieldType)) ∈ fw_LW := fw_t4 65 rfl (by decide +kernel)
theorem wi_X6_sets : Cond.instanceMethod yX6_sets ∈ fw_LW := fw_t4 64 (by decide +kernel) (by decide +kernel)
theorem wv_X6_sets : Cond.selects RX6 yX6_sets yX6_sets ∈ fw_LW := fw_tp 3 (by decide +kernel) (by decide +kernel)
theorem wc_X6_its : Cond.code yX6_its cX6_its 3 ((Option.some Jvm.ClassFile.FieldType.int)) ∈ fw_LW := fw_t4 125 rfl (by decide +kernel)
theorem wi_X6_its : Cond.instanceMethod yX6_its ∈ fw_LW := fw_t4 124 (by decide +kernel) (by decide +kernel)
theorem wv_X6_its : Cond.selects RX6 yX6_its yX6_its ∈ fw_LW := fw_tp 13 (by decide +kernel) (by decide +kernel)
theorem wc_X6_puts : Cond.code yX6_puts cX6_puts 4 ((Option.none : Option Jvm.ClassFile.FieldType)) ∈ fw_LW := fw_t4 101 rfl (by decide +kernel)
theorem wi_X6_puts : Cond.instanceMethod yX6_puts ∈ fw_LW := fw_t4 100 (by decide +kernel) (by decide +kernel)
theorem wv_X6_puts : Cond.selects RX6 yX6_puts yX6_puts ∈ fw_LW := fw_tp 10 (by decide +kernel) (by decide +kernel)
theorem wc_X6_isIn : Cond.code yX6_isIn cX6_isIn 3 ((Option.some Jvm.ClassFile.FieldType.boolean)) ∈ fw_LW := fw_t4 144 rfl (by decide +kernel)
theorem wi_X6_isIn : Cond.instanceMethod yX6_isIn ∈ fw_LW := fw_t4 143 (by decide +kernel) (by decide +kernel)
theorem wv_X6_isIn : Cond.selects RX6 yX6_isIn yX6_isIn ∈ fw_LW := fw_tp 17 (by decide +kernel) (by decide +kernel)
theorem wc_X6_next : Cond.code yX6_next cX6_next 2 ((Option.some Jvm.ClassFile.FieldType.int)) ∈ fw_LW := fw_t4 140 rfl (by decide +kernel)
theorem ws_X6_next : Cond.static yX6_next ∈ fw_LW := fw_t4 139 (by decide +kernel) (by decide +kernel)
theorem wc_X6_frees : Cond.code yX6_frees cX6_frees 2 ((Option.none : Option Jvm.ClassFile.FieldType)) ∈ fw_LW := fw_t4 69 rfl (by decide +kernel)
theorem wi_X6_frees : Cond.instanceMethod yX6_frees ∈ fw_LW := fw_t4 68 (by decide +kernel) (by decide +kernel)
theorem wv_X6_frees : Cond.selects RX6 yX6_frees yX6_frees ∈ fw_LW := fw_tp 4 (by decide +kernel) (by decide +kernel)
theorem wc_X6_suits : Cond.code yX6_suits cX6_suits 3 ((Option.some Jvm.ClassFile.FieldType.boolean)) ∈ fw_LW := fw_t4 168 rfl (by decide +kernel)
theorem wi_X6_suits : Cond.instanceMethod yX6_suits ∈ fw_LW := fw_t4 167 (by decide +kernel) (by decide +kernel)
theorem wv_X6_suits : Cond.selects RX6 yX6_suits yX6_suits ∈ fw_LW := fw_tp 23 (by decide +kernel) (by decide +kernel)
theorem wc_X6_legsOf : Cond.code yX6_legsOf cX6_legsOf 4 ((Option.some Jvm.ClassFile.FieldType.int)) ∈ fw_LW := fw_t4 156 rfl (by decide +kernel)
theorem wi_X6_legsOf : Cond.instanceMethod yX6_legsOf ∈ fw_LW := fw_t4 155 (by decide +kernel) (by decide +kernel)
theorem wv_X6_legsOf : Cond.selects RX6 yX6_legsOf yX6_legsOf ∈ fw_LW := fw_tp 20 (by decide +kernel) (by decide +kernel)
theorem wc_X6_shares : Cond.code yX6_shares cX6_shares 10 ((Option.none : Option Jvm.ClassFile.FieldType)) ∈ fw_LW := fw_t4 152 rfl (by decide +kernel)
theorem wi_X6_shares : Cond.instanceMethod yX6_shares ∈ fw_LW := fw_t4 151 (by decide +kernel) (by decide +kernel)
theorem wv_X6_shares : Cond.selects RX6 yX6_shares yX6_shares ∈ fw_LW := fw_tp 19 (by decide +kernel) (by decide +kernel)
theorem wc_X6_delivers : Cond.code yX6_delivers cX6_delivers 4 ((Option.none : Option Jvm.ClassFile.FieldType)) ∈ fw_LW := fw_t4 148 rfl (by decide +kernel)
theorem wi_X6_delivers : Cond.instanceMethod yX6_delivers ∈ fw_LW := fw_t4 147 (by decide +kernel) (by decide +kernel)
theorem wv_X6_delivers : Cond.selects RX6 yX6_delivers yX6_delivers ∈ fw_LW := fw_tp 18 (by decide +kernel) (by decide +kernel)
theorem wc_X6_carries : Cond.code yX6_carries cX6_carries 4 ((Option.none : Option Jvm.ClassFile.FieldType)) ∈ fw_LW := fw_t4 137 rfl (by decide +kernel)
theorem wi_X6_carries : Cond.instanceMethod yX6_carries ∈ fw_LW := fw_t4 136 (by decide +kernel) (by decide +kernel)
theorem wv_X6_carries : Cond.selects RX6 yX6_carries yX6_carries ∈ fw_LW := fw_tp 16 (by decide +kernel) (by decide +kernel)
theorem wc_X6_goes : Cond.code yX6_goes cX6_goes 3 ((Option.none : Option Jvm.ClassFile.FieldType)) ∈ fw_LW := fw_t4 160 rfl (by decide +kernel)
theorem wi_X6_goes : Cond.instanceMethod yX6_goes ∈ fw_LW := fw_t4 159 (by decide +kernel) (by decide +kernel)
theorem wv_X6_goes : Cond.selects RX6 yX6_goes yX6_goes ∈ fw_LW := fw_tp 21 (by decide +kernel) (by decide +kernel)
theorem wc_X6_isAsked : Cond.code yX6_isAsked cX6_isAsked 5 ((Option.some Jvm.ClassFile.FieldType.boolean)) ∈ fw_LW := fw_t4 172 rfl (by decide +kernel)
theorem wi_X6_isAsked : Cond.instanceMethod yX6_isAsked ∈ fw_LW := fw_t4 171 (by decide +kernel) (by decide +kernel)
theorem wv_X6_isAsked : Cond.selects RX6 yX6_isAsked yX6_isAsked ∈ fw_LW := fw_tp 24 (by decide +kernel) (by decide +kernel)
theorem wc_X6_chooses : Cond.code yX6_chooses cX6_chooses 5 ((Option.none : Option Jvm.ClassFile.FieldType)) ∈ fw_LW := fw_t4 164 rfl (by decide +kernel)
theorem wi_X6_chooses : Cond.instanceMethod yX6_chooses ∈ fw_LW := fw_t4 163 (by decide +kernel) (by decide +kernel)
theorem wv_X6_chooses : Cond.selects RX6 yX6_chooses yX6_chooses ∈ fw_LW := fw_tp 22 (by decide +kernel) (by decide +kernel)
theorem wc_X6_failsOf : Cond.code yX6_failsOf cX6_failsOf 3 ((Option.none : Option Jvm.ClassFile.FieldType)) ∈ fw_LW := fw_t4 176 rfl (by decide +kernel)
theorem wi_X6_failsOf : Cond.instanceMethod yX6_failsOf ∈ fw_LW := fw_t4 175 (by decide +kernel) (by decide +kernel)
theorem wv_X6_failsOf : Cond.selects RX6 yX6_failsOf yX6_failsOf ∈ fw_LW := fw_tp 25 (by decide +kernel) (by decide +kernel)
theorem wc_X6_tick : Cond.code yX6_tick cX6_tick 3 ((Option.none : Option Jvm.ClassFile.FieldType)) ∈ fw_LW := fw_t4 133 rfl (by decide +kernel)
theorem wi_X6_tick : Cond.instanceMethod yX6_tick ∈ fw_LW := fw_t4 132 (by decide +kernel) (by decide +kernel)
theorem wv_X6_tick : Cond.selects RX6 yX6_tick yX6_tick ∈ fw_LW := fw_tp 15 (by decide +kernel) (by decide +kernel)
theorem wc_X6_inState : Cond.code yX6_inState cX6_inState 4 ((Option.some Jvm.ClassFile.FieldType.int)) ∈ fw_LW := fw_t4 121 rfl (by decide +kernel)
theorem wi_X6_inState : Cond.instanceMethod yX6_inState ∈ fw_LW := fw_t4 120 (by decide +kernel) (by decide +kernel)
theorem wv_X6_inState : Cond.selects RX6 yX6_inState yX6_inState ∈ fw_LW := fw_tp 12 (by decide +kernel) (by decide +kernel)
theorem wc_X6_ticks : Cond.code yX6_ticks cX6_ticks 3 ((Option.none : Option Jvm.ClassFile.FieldType)) ∈ fw_LW := fw_t4 129 rfl (by decide +kernel)
theorem wi_X6_ticks : Cond.instanceMethod yX6_ticks ∈ fw_LW := fw_t4 128 (by decide +kernel) (by decide +kernel)
theorem wv_X6_ticks : Cond.selects RX6 yX6_ticks yX6_ticks ∈ fw_LW := fw_tp 14 (by decide +kernel) (by decide +kernel)
theorem wc_X6_isArea : Cond.code yX6_isArea cX6_isArea 1 ((Option.some Jvm.ClassFile.FieldType.boolean)) ∈ fw_LW := fw_t4 43 rfl (by decide +kernel)
theorem ws_X6_isArea : Cond.static yX6_isArea ∈ fw_LW := fw_t4 42 (by decide +kernel) (by decide +kernel)
theorem wc_X6_addCourier : Cond.code yX6_addCourier cX6_addCourier 4 ((Option.some Jvm.ClassFile.FieldType.int)) ∈ fw_LW := fw_t4 40 rfl (by decide +kernel)
theorem wi_X6_addCourier : Cond.instanceMethod yX6_addCourier ∈ fw_LW := fw_t4 38 (by decide +kernel) (by decide +kernel)
theorem wv_X6_addCourier : Cond.selects RX6 yX6_addCourier yX6_addCourier ∈ fw_LW := fw_t4 39 (by decide +kernel) (by decide +kernel)
theorem wc_X6_setArea : Cond.code yX6_setArea cX6_setArea 4 ((Option.some Jvm.ClassFile.FieldType.int)) ∈ fw_LW := fw_t4 81 rfl (by decide +kernel)
theorem wi_X6_setArea : Cond.instanceMethod yX6_setArea ∈ fw_LW := fw_t4 79 (by decide +kernel) (by decide +kernel)
theorem wv_X6_setArea : Cond.selects RX6 yX6_setArea yX6_setArea ∈ fw_LW := fw_t4 80 (by decide +kernel) (by decide +kernel)
theorem wc_X6_comes : Cond.code yX6_comes cX6_comes 7 ((Option.none : Option Jvm.ClassFile.FieldType)) ∈ fw_LW := fw_t4 97 rfl (by decide +kernel)
theorem wi_X6_comes : Cond.instanceMethod yX6_comes ∈ fw_LW := fw_t4 96 (by decide +kernel) (by decide +kernel)
theorem wv_X6_comes : Cond.selects RX6 yX6_comes yX6_comes ∈ fw_LW := fw_tp 9 (by decide +kernel) (by decide +kernel)
theorem wc_X6_give : Cond.code yX6_give cX6_give 5 ((Option.some Jvm.ClassFile.FieldType.int)) ∈ fw_LW := fw_t4 93 rfl (by decide +kernel)
theorem wi_X6_give : Cond.instanceMethod yX6_give ∈ fw_LW := fw_t4 91 (by decide +kernel) (by decide +kernel)
theorem wv_X6_give : Cond.selects RX6 yX6_give yX6_give ∈ fw_LW := fw_t4 92 (by decide +kernel) (by decide +kernel)
theorem wc_X6_setGrace : Cond.code yX6_setGrace cX6_setGrace 3 ((Option.some Jvm.ClassFile.FieldType.int)) ∈ fw_LW := fw_t4 105 rfl (by decide +kernel)
theorem wi_X6_setGrace : Cond.instanceMethod yX6_setGrace ∈ fw_LW := fw_t4 103 (by decide +kernel) (by decide +kernel)
theorem wv_X6_setGrace : Cond.selects RX6 yX6_setGrace yX6_setGrace ∈ fw_LW := fw_t4 104 (by decide +kernel) (by decide +kernel)
theorem wc_X6_drops : Cond.code yX6_drops cX6_drops 3 ((Option.some Jvm.ClassFile.FieldType.int)) ∈ fw_LW := fw_t4 113 rfl (by decide +kernel)
theorem wi_X6_drops : Cond.instanceMethod yX6_drops ∈ fw_LW := fw_t4 112 (by decide +kernel) (by decide +kernel)
theorem wv_X6_drops : Cond.selects RX6 yX6_drops yX6_drops ∈ fw_LW := fw_tp 11 (by decide +kernel) (by decide +kernel)
theorem wc_X6_drop : Cond.code yX6_drop cX6_drop 2 ((Option.some Jvm.ClassFile.FieldType.int)) ∈ fw_LW := fw_t4 109 rfl (by decide +kernel)
theorem wi_X6_drop : Cond.instanceMethod yX6_drop ∈ fw_LW := fw_t4 107 (by decide +kernel) (by decide +kernel)
theorem wv_X6_drop : Cond.selects RX6 yX6_drop yX6_drop ∈ fw_LW := fw_t4 108 (by decide +kernel) (by decide +kernel)
theorem wc_X6_run : Cond.code yX6_run cX6_run 3 ((Option.some Jvm.ClassFile.FieldType.int)) ∈ fw_LW := fw_t4 117 rfl (by decide +kernel)
theorem wi_X6_run : Cond.instanceMethod yX6_run ∈ fw_LW := fw_t4 115 (by decide +kernel) (by decide +kernel)
theorem wv_X6_run : Cond.selects RX6 yX6_run yX6_run ∈ fw_LW := fw_t4 116 (by decide +kernel) (by decide +kernel)
theorem wc_X6_valueOf : Cond.code yX6_valueOf cX6_valueOf 2 ((Option.some Jvm.ClassFile.FieldType.int)) ∈ fw_LW := fw_t4 184 rfl (by decide +kernel)
theorem wi_X6_valueOf : Cond.instanceMethod yX6_valueOf ∈ fw_LW := fw_t4 183 (by decide +kernel) (by decide +kernel)
theorem wv_X6_valueOf : Cond.selects RX6 yX6_valueOf yX6_valueOf ∈ fw_LW := fw_tp 26 (by decide +kernel) (by decide +kernel)
theorem wc_X6_value : Cond.code yX6_value cX6_value 2 ((Option.some Jvm.ClassFile.FieldType.int)) ∈ fw_LW := fw_t4 180 rfl (by decide +kernel)
theorem wi_X6_value : Cond.instanceMethod yX6_value ∈ fw_LW := fw_t4 178 (by decide +kernel) (by decide +kernel)
theorem wv_X6_value : Cond.selects RX6 yX6_value yX6_value ∈ fw_LW := fw_t4 179 (by decide +kernel) (by decide +kernel)
theorem wc_X6_courierOf : Cond.code yX6_courierOf cX6_courierOf 5 ((Option.some Jvm.ClassFile.FieldType.int)) ∈ fw_LW := fw_t4 192 rfl (by decide +kernel)
theorem wi_X6_courierOf : Cond.instanceMethod yX6_courierOf ∈ fw_LW := fw_t4 191 (by decide +kernel) (by decide +kernel)
theorem wv_X6_courierOf : Cond.selects RX6 yX6_courierOf yX6_courierOf ∈ fw_LW := fw_tp 27 (by decide +kernel) (by decide +kernel)
theorem wc_X6_courier : Cond.code yX6_courier cX6_courier 3 ((Option.some Jvm.ClassFile.FieldType.int)) ∈ fw_LW := fw_t4 188 rfl (by decide +kernel)
theorem wi_X6_courier : Cond.instanceMethod yX6_courier ∈ fw_LW := fw_t4 186 (by decide +kernel) (by decide +kernel)
theorem wv_X6_courier : Cond.selects RX6 yX6_courier yX6_courier ∈ fw_LW := fw_t4 187 (by decide +kernel) (by decide +kernel)
theorem wc_X6_parcelOf : Cond.code yX6_parcelOf cX6_parcelOf 3 ((Option.some Jvm.ClassFile.FieldType.int)) ∈ fw_LW := fw_t4 204 rfl (by decide +kernel)
theorem wi_X6_parcelOf : Cond.instanceMethod yX6_parcelOf ∈ fw_LW := fw_t4 203 (by decide +kernel) (by decide +kernel)
theorem wv_X6_parcelOf : Cond.selects RX6 yX6_parcelOf yX6_parcelOf ∈ fw_LW := fw_tp 29 (by decide +kernel) (by decide +kernel)
theorem wc_X6_parcel : Cond.code yX6_parcel cX6_parcel 3 ((Option.some Jvm.ClassFile.FieldType.int)) ∈ fw_LW := fw_t4 196 rfl (by decide +kernel)
theorem wi_X6_parcel : Cond.instanceMethod yX6_parcel ∈ fw_LW := fw_t4 194 (by decide +kernel) (by decide +kernel)
theorem wv_X6_parcel : Cond.selects RX6 yX6_parcel yX6_parcel ∈ fw_LW := fw_t4 195 (by decide +kernel) (by decide +kernel)
theorem wc_X6_legs : Cond.code yX6_legs cX6_legs 4 ((Option.some Jvm.ClassFile.FieldType.int)) ∈ fw_LW := fw_t4 208 rfl (by decide +kernel)
theorem wi_X6_legs : Cond.instanceMethod yX6_legs ∈ fw_LW := fw_t4 206 (by decide +kernel) (by decide +kernel)
theorem wv_X6_legs : Cond.selects RX6 yX6_legs yX6_legs ∈ fw_LW := fw_t4 207 (by decide +kernel) (by decide +kernel)
theorem wc_X6_apart : Cond.code yX6_apart cX6_apart 2 ((Option.some Jvm.ClassFile.FieldType.int)) ∈ fw_LW := fw_t4 215 rfl (by decide +kernel)
theorem ws_X6_apart : Cond.static yX6_apart ∈ fw_LW := fw_t4 214 (by decide +kernel) (by decide +kernel)
theorem wc_X6_distance : Cond.code yX6_distance cX6_distance 3 ((Option.some Jvm.ClassFile.FieldType.int)) ∈ fw_LW := fw_t4 212 rfl (by decide +kernel)
theorem wi_X6_distance : Cond.instanceMethod yX6_distance ∈ fw_LW := fw_t4 210 (by decide +kernel) (by decide +kernel)
theorem wv_X6_distance : Cond.selects RX6 yX6_distance yX6_distance ∈ fw_LW := fw_t4 211 (by decide +kernel) (by decide +kernel)
theorem wc_X6_suited : Cond.code yX6_suited cX6_suited 4 ((Option.some Jvm.ClassFile.FieldType.int)) ∈ fw_LW := fw_t4 219 rfl (by decide +kernel)
theorem wi_X6_suited : Cond.instanceMethod yX6_suited ∈ fw_LW := fw_t4 217 (by decide +kernel) (by decide +kernel)
theorem wv_X6_suited : Cond.selects RX6 yX6_suited yX6_suited ∈ fw_LW := fw_t4 218 (by decide +kernel) (by decide +kernel)
theorem wc_X6_reach : Cond.code yX6_reach cX6_reach 5 ((Option.some Jvm.ClassFile.FieldType.int)) ∈ fw_LW := fw_t4 231 rfl (by decide +kernel)
theorem wi_X6_reach : Cond.instanceMethod yX6_reach ∈ fw_LW := fw_t4 230 (by decide +kernel) (by decide +kernel)
theorem wv_X6_reach : Cond.selects RX6 yX6_reach yX6_reach ∈ fw_LW := fw_tp 31 (by decide +kernel) (by decide +kernel)
theorem wc_X6_relays : Cond.code yX6_relays cX6_relays 9 ((Option.some Jvm.ClassFile.FieldType.int)) ∈ fw_LW := fw_t4 227 rfl (by decide +kernel)
theorem wi_X6_relays : Cond.instanceMethod yX6_relays ∈ fw_LW := fw_t4 226 (by decide +kernel) (by decide +kernel)
theorem wv_X6_relays : Cond.selects RX6 yX6_relays yX6_relays ∈ fw_LW := fw_tp 30 (by decide +kernel) (by decide +kernel)
theorem wc_X6_leastRelay : Cond.code yX6_leastRelay cX6_leastRelay 2 ((Option.some Jvm.ClassFile.FieldType.int)) ∈ fw_LW := fw_t4 223 rfl (by decide +kernel)
theorem wi_X6_leastRelay : Cond.instanceMethod yX6_leastRelay ∈ fw_LW := fw_t4 221 (by decide +kernel) (by decide +kernel)
theorem wv_X6_leastRelay : Cond.selects RX6 yX6_leastRelay yX6_leastRelay ∈ fw_LW := fw_t4 222 (by decide +kernel) (by decide +kernel)
theorem wc_X6_punctuality : Cond.code yX6_punctuality cX6_punctuality 4 ((Option.some Jvm.ClassFile.FieldType.double)) ∈ fw_LW := fw_t4 235 rfl (by decide +kernel)
theorem wi_X6_punctuality : Cond.instanceMethod yX6_punctuality ∈ fw_LW := fw_t4 233 (by decide +kernel) (by decide +kernel)
theorem wv_X6_punctuality : Cond.selects RX6 yX6_punctuality yX6_punctuality ∈ fw_LW := fw_t4 234 (by decide +kernel) (by decide +kernel)
theorem wc_X6_more : Cond.code yX6_more cX6_more 4 ((Option.some Jvm.ClassFile.FieldType.int)) ∈ fw_LW := fw_t5 10 rfl (by decide +kernel)
theorem wi_X6_more : Cond.instanceMethod yX6_more ∈ fw_LW := fw_t5 9 (by decide +kernel) (by decide +kernel)
theorem wv_X6_more : Cond.selects RX6 yX6_more yX6_more ∈ fw_LW := fw_tp 33 (by decide +kernel) (by decide +kernel)
theorem wc_X6_paidBy : Cond.code yX6_paidBy cX6_paidBy 2 ((Option.some Jvm.ClassFile.FieldType.int)) ∈ fw_LW := fw_t5 6 rfl (by decide +kernel)
theorem wi_X6_paidBy : Cond.instanceMethod yX6_paidBy ∈ fw_LW := fw_t5 5 (by decide +kernel) (by decide +kernel)
theorem wv_X6_paidBy : Cond.selects RX6 yX6_paidBy yX6_paidBy ∈ fw_LW := fw_tp 32 (by decide +kernel) (by decide +kernel)
theorem wc_X6_isMany : Cond.code yX6_isMany cX6_isMany 1 ((Option.some Jvm.ClassFile.FieldType.boolean)) ∈ fw_LW := fw_t5 2 rfl (by decide +kernel)
theorem ws_X6_isMany : Cond.static yX6_isMany ∈ fw_LW := fw_t5 1 (by decide +kernel) (by decide +kernel)
theorem wc_X6_paidIn : Cond.code yX6_paidIn cX6_paidIn 2 ((Option.some Jvm.ClassFile.FieldType.int)) ∈ fw_LW := fw_t4 239 rfl (by decide +kernel)
theorem wi_X6_paidIn : Cond.instanceMethod yX6_paidIn ∈ fw_LW := fw_t4 237 (by decide +kernel) (by decide +kernel)
theorem wv_X6_paidIn : Cond.selects RX6 yX6_paidIn yX6_paidIn ∈ fw_LW := fw_t4 238 (by decide +kernel) (by decide +kernel)
theorem wc_X6_bestZone : Cond.code yX6_bestZone cX6_bestZone 7 ((Option.some Jvm.ClassFile.FieldType.int)) ∈ fw_LW := fw_t5 14 rfl (by decide +kernel)
theorem wi_X6_bestZone : Cond.instanceMethod yX6_bestZone ∈ fw_LW := fw_t5 12 (by decide +kernel) (by decide +kernel)
theorem wv_X6_bestZone : Cond.selects RX6 yX6_bestZone yX6_bestZone ∈ fw_LW := fw_t5 13 (by decide +kernel) (by decide +kernel)
theorem wc_X6_worth : Cond.code yX6_worth cX6_worth 4 ((Option.some Jvm.ClassFile.FieldType.int)) ∈ fw_LW := fw_t5 18 rfl (by decide +kernel)
theorem wi_X6_worth : Cond.instanceMethod yX6_worth ∈ fw_LW := fw_t5 16 (by decide +kernel) (by decide +kernel)
theorem wv_X6_worth : Cond.selects RX6 yX6_worth yX6_worth ∈ fw_LW := fw_t5 17 (by decide +kernel) (by decide +kernel)
theorem wc_X6_isDone : Cond.code yX6_isDone cX6_isDone 1 ((Option.some Jvm.ClassFile.FieldType.boolean)) ∈ fw_LW := fw_t5 26 rfl (by decide +kernel)
theorem wi_X6_isDone : Cond.instanceMethod yX6_isDone ∈ fw_LW := fw_t5 25 (by decide +kernel) (by decide +kernel)
theorem wv_X6_isDone : Cond.selects RX6 yX6_isDone yX6_isDone ∈ fw_LW := fw_tp 34 (by decide +kernel) (by decide +kernel)
theorem wc_X6_doneIn : Cond.code yX6_doneIn cX6_doneIn 3 ((Option.some Jvm.ClassFile.FieldType.int)) ∈ fw_LW := fw_t5 22 rfl (by decide +kernel)
theorem wi_X6_doneIn : Cond.instanceMethod yX6_doneIn ∈ fw_LW := fw_t5 20 (by decide +kernel) (by decide +kernel)
theorem wv_X6_doneIn : Cond.selects RX6 yX6_doneIn yX6_doneIn ∈ fw_LW := fw_t5 21 (by decide +kernel) (by decide +kernel)
theorem wc_X6_append : Cond.code yX6_append cX6_append 2 ((Option.some Jvm.ClassFile.FieldType.int)) ∈ fw_LW := fw_t5 30 rfl (by decide +kernel)
theorem wi_X6_append : Cond.instanceMethod yX6_append ∈ fw_LW := fw_t5 28 (by decide +kernel) (by decide +kernel)
theorem wv_X6_append : Cond.selects RX6 yX6_append yX6_append ∈ fw_LW := fw_t5 29 (by decide +kernel) (by decide +kernel)
theorem wc_X6_clearText : Cond.code yX6_clearText cX6_clearText 2 ((Option.some Jvm.ClassFile.FieldType.int)) ∈ fw_LW := fw_t5 34 rfl (by decide +kernel)
theorem wi_X6_clearText : Cond.instanceMethod yX6_clearText ∈ fw_LW := fw_t5 32 (by decide +kernel) (by decide +kernel)
theorem wv_X6_clearText : Cond.selects RX6 yX6_clearText yX6_clearText ∈ fw_LW := fw_t5 33 (by decide +kernel) (by decide +kernel)
theorem wc_X6_isAt : Cond.code yX6_isAt cX6_isAt 3 ((Option.some Jvm.ClassFile.FieldType.boolean)) ∈ fw_LW := fw_t5 50 rfl (by decide +kernel)
theorem wi_X6_isAt : Cond.instanceMethod yX6_isAt ∈ fw_LW := fw_t5 49 (by decide +kernel) (by decide +kernel)
theorem wv_X6_isAt : Cond.selects RX6 yX6_isAt yX6_isAt ∈ fw_LW := fw_tp 37 (by decide +kernel) (by decide +kernel)
theorem wc_X6_isNumber : Cond.code yX6_isNumber cX6_isNumber 8 ((Option.some Jvm.ClassFile.FieldType.boolean)) ∈ fw_LW := fw_t5 46 rfl (by decide +kernel)
theorem wi_X6_isNumber : Cond.instanceMethod yX6_isNumber ∈ fw_LW := fw_t5 45 (by decide +kernel) (by decide +kernel)
theorem wv_X6_isNumber : Cond.selects RX6 yX6_isNumber yX6_isNumber ∈ fw_LW := fw_tp 36 (by decide +kernel) (by decide +kernel)
theorem wc_X6_isItem : Cond.code yX6_isItem cX6_isItem 4 ((Option.some Jvm.ClassFile.FieldType.boolean)) ∈ fw_LW := fw_t5 42 rfl (by decide +kernel)
theorem wi_X6_isItem : Cond.instanceMethod yX6_isItem ∈ fw_LW := fw_t5 41 (by decide +kernel) (by decide +kernel)
theorem wv_X6_isItem : Cond.selects RX6 yX6_isItem yX6_isItem ∈ fw_LW := fw_tp 35 (by decide +kernel) (by decide +kernel)
theorem wc_X6_parse : Cond.code yX6_parse cX6_parse 1 ((Option.some Jvm.ClassFile.FieldType.int)) ∈ fw_LW := fw_t5 38 rfl (by decide +kernel)
theorem wi_X6_parse : Cond.instanceMethod yX6_parse ∈ fw_LW := fw_t5 36 (by decide +kernel) (by decide +kernel)
theorem wv_X6_parse : Cond.selects RX6 yX6_parse yX6_parse ∈ fw_LW := fw_t5 37 (by decide +kernel) (by decide +kernel)
theorem wc_X6_undo : Cond.code yX6_undo cX6_undo 2 ((Option.some Jvm.ClassFile.FieldType.int)) ∈ fw_LW := fw_t5 54 rfl (by decide +kernel)
theorem wi_X6_undo : Cond.instanceMethod yX6_undo ∈ fw_LW := fw_t5 52 (by decide +kernel) (by decide +kernel)
theorem wv_X6_undo : Cond.selects RX6 yX6_undo yX6_undo ∈ fw_LW := fw_t5 53 (by decide +kernel) (by decide +kernel)
theorem wc_X6_mix : Cond.code yX6_mix cX6_mix 2 ((Option.none : Option Jvm.ClassFile.FieldType)) ∈ fw_LW := fw_t5 63 rfl (by decide +kernel)
theorem wi_X6_mix : Cond.instanceMethod yX6_mix ∈ fw_LW := fw_t5 62 (by decide +kernel) (by decide +kernel)
theorem wv_X6_mix : Cond.selects RX6 yX6_mix yX6_mix ∈ fw_LW := fw_tp 38 (by decide +kernel) (by decide +kernel)
theorem wc_X6_digest : Cond.code yX6_digest cX6_digest 3 ((Option.some Jvm.ClassFile.FieldType.long)) ∈ fw_LW := fw_t5 58 rfl (by decide +kernel)
theorem wi_X6_digest : Cond.instanceMethod yX6_digest ∈ fw_LW := fw_t5 56 (by decide +kernel) (by decide +kernel)
theorem wv_X6_digest : Cond.selects RX6 yX6_digest yX6_digest ∈ fw_LW := fw_t5 57 (by decide +kernel) (by decide +kernel)
theorem wc_J9_abs_0f7a4 : Cond.code yJ9_abs_0f7a4 cJ9_abs_0f7a4 1 ((Option.some Jvm.ClassFile.FieldType.int)) ∈ fw_LW := fw_t3 154 rfl (by decide +kernel)
theorem ws_J9_abs_0f7a4 : Cond.static yJ9_abs_0f7a4 ∈ fw_LW := fw_t3 153 (by decide +kernel) (by decide +kernel)
theorem wc_J9_min_7cf53 : Cond.code yJ9_min_7cf53 cJ9_min_7cf53 2 ((Option.some Jvm.ClassFile.FieldType.int)) ∈ fw_LW := fw_t1 239 rfl (by decide +kernel)
theorem ws_J9_min_7cf53 : Cond.static yJ9_min_7cf53 ∈ fw_LW := fw_t1 238 (by decide +kernel) (by decide +kernel)
theorem ws_L_addCourier : Cond.static yL_addCourier ∈ fw_LW := fw_t2 187 (by decide +kernel) (by decide +kernel)
theorem ws_L_setArea : Cond.static yL_setArea ∈ fw_LW := fw_t3 48 (by decide +kernel) (by decide +kernel)
theorem ws_L_give : Cond.static yL_give ∈ fw_LW := fw_t3 72 (by decide +kernel) (by decide +kernel)
theorem ws_L_setGrace : Cond.static yL_setGrace ∈ fw_LW := fw_t3 81 (by decide +kernel) (by decide +kernel)
theorem ws_L_drop : Cond.static yL_drop ∈ fw_LW := fw_t3 88 (by decide +kernel) (by decide +kernel)
theorem ws_L_run : Cond.static yL_run ∈ fw_LW := fw_t3 99 (by decide +kernel) (by decide +kernel)
theorem ws_L_value : Cond.static yL_value ∈ fw_LW := fw_t3 113 (by decide +kernel) (by decide +kernel)
theorem ws_L_courier : Cond.static yL_courier ∈ fw_LW := fw_t3 120 (by decide +kernel) (by decide +kernel)
theorem ws_L_parcel : Cond.static yL_parcel ∈ fw_LW := fw_t3 128 (by decide +kernel) (by decide +kernel)
theorem ws_L_legs : Cond.static yL_legs ∈ fw_LW := fw_t3 137 (by decide +kernel) (by decide +kernel)
theorem ws_L_distance : Cond.static yL_distance ∈ fw_LW := fw_t3 146 (by decide +kernel) (by decide +kernel)
theorem ws_L_suited : Cond.static yL_suited ∈ fw_LW := fw_t3 156 (by decide +kernel) (by decide +kernel)
theorem ws_L_leastRelay : Cond.static yL_leastRelay ∈ fw_LW := fw_t3 169 (by decide +kernel) (by decide +kernel)
theorem ws_L_paidIn : Cond.static yL_paidIn ∈ fw_LW := fw_t3 181 (by decide +kernel) (by decide +kernel)
theorem ws_L_bestZone : Cond.static yL_bestZone ∈ fw_LW := fw_t3 188 (by decide +kernel) (by decide +kernel)
theorem ws_L_worth : Cond.static yL_worth ∈ fw_LW := fw_t3 200 (by decide +kernel) (by decide +kernel)
theorem ws_L_append : Cond.static yL_append ∈ fw_LW := fw_t3 212 (by decide +kernel) (by decide +kernel)
theorem ws_L_undo : Cond.static yL_undo ∈ fw_LW := fw_t3 223 (by decide +kernel) (by decide +kernel)
theorem wl_X5_9 : Cond.methodLink RX5 9 yX1_init ∈ fw_LW := fw_t1 26 (by decide +kernel) (by decide +kernel)
theorem wl_X5_21 : Cond.methodLink RX5 21 yX2_init ∈ fw_LW := fw_t1 143 (by decide +kernel) (by decide +kernel)
theorem wl_X5_33 : Cond.methodLink RX5 33 yX5_isArea ∈ fw_LW := fw_t2 195 (by decide +kernel) (by decide +kernel)
theorem wl_X5_37 : Cond.methodLink RX5 37 yX5_isZone ∈ fw_LW := fw_t2 199 (by decide +kernel) (by decide +kernel)
theorem wl_X5_50 : Cond.methodLink RX5 50 yX2_save ∈ fw_LW := fw_t2 133 (by decide +kernel) (by decide +kernel)
theorem wl_X5_54 : Cond.methodLink RX5 54 yX1_join ∈ fw_LW := fw_t3 38 (by decide +kernel) (by decide +kernel)
theorem wl_X5_58 : Cond.methodLink RX5 58 yX1_courierAt ∈ fw_LW := fw_t3 55 (by decide +kernel) (by decide +kernel)
theorem wl_X5_70 : Cond.methodLink RX5 70 yX5_isCutOff ∈ fw_LW := fw_t3 78 (by decide +kernel) (by decide +kernel)
theorem wl_X5_73 : Cond.methodLink RX5 73 yX5_isTip ∈ fw_LW := fw_t3 79 (by decide +kernel) (by decide +kernel)
theorem wl_X5_79 : Cond.methodLink RX5 79 yX1_accept ∈ fw_LW := fw_t2 143 (by decide +kernel) (by decide +kernel)
theorem wl_X5_89 : Cond.methodLink RX5 89 yX1_release ∈ fw_LW := fw_t3 94 (by decide +kernel) (by decide +kernel)
theorem wl_X5_93 : Cond.methodLink RX5 93 yX5_isTicks ∈ fw_LW := fw_t3 105 (by decide +kernel) (by decide +kernel)
theorem wl_X5_99 : Cond.methodLink RX5 99 yX1_parcelsIn ∈ fw_LW := fw_t1 202 (by decide +kernel) (by decide +kernel)
theorem wl_X5_103 : Cond.methodLink RX5 103 yX1_pass ∈ fw_LW := fw_t3 108 (by decide +kernel) (by decide +kernel)
theorem wl_X5_106 : Cond.methodLink RX5 106 yX1_figure ∈ fw_LW := fw_t2 157 (by decide +kernel) (by decide +kernel)
theorem wl_X5_109 : Cond.methodLink RX5 109 yX1_courierFigure ∈ fw_LW := fw_t3 126 (by decide +kernel) (by decide +kernel)
theorem wl_X5_113 : Cond.methodLink RX5 113 yX1_parcelAt ∈ fw_LW := fw_t3 134 (by decide +kernel) (by decide +kernel)
theorem wl_X5_117 : Cond.methodLink RX5 117 yX3_figure ∈ fw_LW := fw_t3 135 (by decide +kernel) (by decide +kernel)
theorem wl_X5_120 : Cond.methodLink RX5 120 yX3_shareOf ∈ fw_LW := fw_t3 143 (by decide +kernel) (by decide +kernel)
theorem wl_X5_123 : Cond.methodLink RX5 123 yX3_legsOf ∈ fw_LW := fw_t3 144 (by decide +kernel) (by decide +kernel)
theorem wl_X5_126 : Cond.methodLink RX5 126 yJ9_abs_0f7a4 ∈ fw_LW := fw_t3 152 (by decide +kernel) (by decide +kernel)
theorem wl_X5_131 : Cond.methodLink RX5 131 yX3_isOpen ∈ fw_LW := fw_t3 162 (by decide +kernel) (by decide +kernel)
theorem wl_X5_141 : Cond.methodLink RX5 141 yX5_nextZone ∈ fw_LW := fw_t3 163 (by decide +kernel) (by decide +kernel)
theorem wl_X5_144 : Cond.methodLink RX5 144 yX1_carriersOf ∈ fw_LW := fw_t3 164 (by decide +kernel) (by decide +kernel)
theorem wl_X5_150 : Cond.methodLink RX5 150 yX1_shortestRelay ∈ fw_LW := fw_t3 175 (by decide +kernel) (by decide +kernel)
theorem wl_X5_153 : Cond.methodLink RX5 153 yX1_parcelsInTime ∈ fw_LW := fw_t1 210 (by decide +kernel) (by decide +kernel)
theorem wl_X5_157 : Cond.methodLink RX5 157 yX1_become ∈ fw_LW := fw_t1 218 (by decide +kernel) (by decide +kernel)
theorem wl_X5_160 : Cond.methodLink RX5 160 yX5_holds ∈ fw_LW := fw_t3 194 (by decide +kernel) (by decide +kernel)
theorem wl_X5_164 : Cond.methodLink RX5 164 yX1_widen ∈ fw_LW := fw_t3 195 (by decide +kernel) (by decide +kernel)
theorem wl_X5_168 : Cond.methodLink RX5 168 yX1_retire ∈ fw_LW := fw_t3 206 (by decide +kernel) (by decide +kernel)
theorem wl_X5_172 : Cond.methodLink RX5 172 yX1_ticksUntilDone ∈ fw_LW := fw_t2 3 (by decide +kernel) (by decide +kernel)
theorem wl_X5_178 : Cond.methodLink RX5 178 yX4_add ∈ fw_LW := fw_t3 218 (by decide +kernel) (by decide +kernel)
theorem wl_X5_181 : Cond.methodLink RX5 181 yX4_read ∈ fw_LW := fw_t2 90 (by decide +kernel) (by decide +kernel)
theorem wl_X5_187 : Cond.methodLink RX5 187 yX4_numberOf ∈ fw_LW := fw_t2 142 (by decide +kernel) (by decide +kernel)
theorem wl_X5_193 : Cond.methodLink RX5 193 yX2_restore ∈ fw_LW := fw_t3 229 (by decide +kernel) (by decide +kernel)
theorem wl_X5_200 : Cond.methodLink RX5 200 yX1_hashCouriers ∈ fw_LW := fw_t2 161 (by decide +kernel) (by decide +kernel)
theorem wl_X5_204 : Cond.methodLink RX5 204 yX1_hashParcels ∈ fw_LW := fw_t2 178 (by decide +kernel) (by decide +kernel)
theorem wl_X5_208 : Cond.methodLink RX5 208 yJ9_min_7cf53 ∈ fw_LW := fw_t1 237 (by decide +kernel) (by decide +kernel)
theorem wl_X0_24 : Cond.methodLink RX0 24 yX0_setFree ∈ fw_LW := fw_t3 46 (by decide +kernel) (by decide +kernel)
theorem wl_X1_27 : Cond.methodLink RX1 27 yX0_init ∈ fw_LW := fw_t1 35 (by decide +kernel) (by decide +kernel)
theorem wl_X1_47 : Cond.methodLink RX1 47 yX1_courierAt ∈ fw_LW := fw_t1 222 (by decide +kernel) (by decide +kernel)
theorem wl_X1_51 : Cond.methodLink RX1 51 yX0_become ∈ fw_LW := fw_t1 226 (by decide +kernel) (by decide +kernel)
theorem wl_X1_55 : Cond.methodLink RX1 55 yX1_parcelAt ∈ fw_LW := fw_t1 206 (by decide +kernel) (by decide +kernel)
theorem wl_X1_59 : Cond.methodLink RX1 59 yX3_become ∈ fw_LW := fw_t1 230 (by decide +kernel) (by decide +kernel)
theorem wl_X1_62 : Cond.methodLink RX1 62 yX0_begin ∈ fw_LW := fw_t3 42 (by decide +kernel) (by decide +kernel)
theorem wl_X1_66 : Cond.methodLink RX1 66 yX3_begin ∈ fw_LW := fw_t2 147 (by decide +kernel) (by decide +kernel)
theorem wl_X1_75 : Cond.methodLink RX1 75 yX0_setFree ∈ fw_LW := fw_t2 22 (by decide +kernel) (by decide +kernel)
theorem wl_X1_81 : Cond.methodLink RX1 81 yX1_release ∈ fw_LW := fw_t3 210 (by decide +kernel) (by decide +kernel)
theorem wl_X1_84 : Cond.methodLink RX1 84 yX1_tick ∈ fw_LW := fw_t2 8 (by decide +kernel) (by decide +kernel)
theorem wl_X1_88 : Cond.methodLink RX1 88 yX1_parcelsIn ∈ fw_LW := fw_t2 7 (by decide +kernel) (by decide +kernel)
theorem wl_X1_95 : Cond.methodLink RX1 95 yX1_carry ∈ fw_LW := fw_t2 12 (by decide +kernel) (by decide +kernel)
theorem wl_X1_99 : Cond.methodLink RX1 99 yX1_approach ∈ fw_LW := fw_t2 52 (by decide +kernel) (by decide +kernel)
theorem wl_X1_103 : Cond.methodLink RX1 103 yX1_choose ∈ fw_LW := fw_t2 56 (by decide +kernel) (by decide +kernel)
theorem wl_X1_106 : Cond.methodLink RX1 106 yX1_failLateParcels ∈ fw_LW := fw_t2 70 (by decide +kernel) (by decide +kernel)
theorem wl_X1_124 : Cond.methodLink RX1 124 yX3_addLeg ∈ fw_LW := fw_t2 26 (by decide +kernel) (by decide +kernel)
theorem wl_X1_128 : Cond.methodLink RX1 128 yX1_deliver ∈ fw_LW := fw_t2 30 (by decide +kernel) (by decide +kernel)
theorem wl_X1_141 : Cond.methodLink RX1 141 yX3_sharePaid ∈ fw_LW := fw_t2 34 (by decide +kernel) (by decide +kernel)
theorem wl_X1_147 : Cond.methodLink RX1 147 yX3_shareOf ∈ fw_LW := fw_t2 45 (by decide +kernel) (by decide +kernel)
theorem wl_X1_150 : Cond.methodLink RX1 150 yX3_suits ∈ fw_LW := fw_t2 60 (by decide +kernel) (by decide +kernel)
theorem wl_X1_154 : Cond.methodLink RX1 154 yX1_isSought ∈ fw_LW := fw_t2 66 (by decide +kernel) (by decide +kernel)
theorem wl_X1_157 : Cond.methodLink RX1 157 yX3_isOpen ∈ fw_LW := fw_t2 74 (by decide +kernel) (by decide +kernel)
theorem wl_X1_161 : Cond.methodLink RX1 161 yX1_freeCouriersOf ∈ fw_LW := fw_t2 78 (by decide +kernel) (by decide +kernel)
theorem wl_X1_164 : Cond.methodLink RX1 164 yX1_carriersOf ∈ fw_LW := fw_t3 179 (by decide +kernel) (by decide +kernel)
theorem wl_X1_167 : Cond.methodLink RX1 167 yX3_legsOf ∈ fw_LW := fw_t2 174 (by decide +kernel) (by decide +kernel)
theorem wl_X1_170 : Cond.methodLink RX1 170 yX1_legsBy ∈ fw_LW := fw_t2 170 (by decide +kernel) (by decide +kernel)
theorem wl_X1_175 : Cond.methodLink RX1 175 yX1_courierFigure ∈ fw_LW := fw_t2 166 (by decide +kernel) (by decide +kernel)
theorem wl_X1_179 : Cond.methodLink RX1 179 yX3_figure ∈ fw_LW := fw_t2 182 (by decide +kernel) (by decide +kernel)
theorem wl_X2_17 : Cond.methodLink RX2 17 yX1_init ∈ fw_LW := fw_t1 149 (by decide +kernel) (by decide +kernel)
theorem wl_X2_25 : Cond.methodLink RX2 25 yX2_stateAt ∈ fw_LW := fw_t2 137 (by decide +kernel) (by decide +kernel)
theorem wl_X2_29 : Cond.methodLink RX2 29 yX1_become ∈ fw_LW := fw_t2 141 (by decide +kernel) (by decide +kernel)
theorem wl_X3_63 : Cond.methodLink RX3 63 yX3_rankOf ∈ fw_LW := fw_t2 41 (by decide +kernel) (by decide +kernel)
theorem wl_X4_32 : Cond.methodLink RX4 32 yX4_readItem ∈ fw_LW := fw_t2 94 (by decide +kernel) (by decide +kernel)
theorem wl_X4_36 : Cond.methodLink RX4 36 yX4_readNumber ∈ fw_LW := fw_t2 98 (by decide +kernel) (by decide +kernel)
theorem wl_X4_40 : Cond.methodLink RX4 40 yX4_isDigit ∈ fw_LW := fw_t2 103 (by decide +kernel) (by decide +kernel)
theorem wl_X4_44 : Cond.methodLink RX4 44 yX4_mostDigits ∈ fw_LW := fw_t2 106 (by decide +kernel) (by decide +kernel)
theorem wl_X4_47 : Cond.methodLink RX4 47 yX4_fits ∈ fw_LW := fw_t2 109 (by decide +kernel) (by decide +kernel)
theorem wl_X4_51 : Cond.methodLink RX4 51 yX4_endOf ∈ fw_LW := fw_t2 126 (by decide +kernel) (by decide +kernel)
theorem wl_X4_54 : Cond.methodLink RX4 54 yX4_keep ∈ fw_LW := fw_t2 129 (by decide +kernel) (by decide +kernel)
theorem wl_X4_61 : Cond.methodLink RX4 61 yX4_numberOf ∈ fw_LW := fw_t2 116 (by decide +kernel) (by decide +kernel)
theorem wl_L_7 : Cond.methodLink RL 7 yX5_addCourier ∈ fw_LW := fw_t2 191 (by decide +kernel) (by decide +kernel)
theorem wl_L_17 : Cond.methodLink RL 17 yX5_setArea ∈ fw_LW := fw_t3 51 (by decide +kernel) (by decide +kernel)
theorem wl_L_22 : Cond.methodLink RL 22 yX5_give ∈ fw_LW := fw_t3 74 (by decide +kernel) (by decide +kernel)
theorem wl_L_26 : Cond.methodLink RL 26 yX5_setGrace ∈ fw_LW := fw_t3 83 (by decide +kernel) (by decide +kernel)
theorem wl_L_30 : Cond.methodLink RL 30 yX5_drop ∈ fw_LW := fw_t3 90 (by decide +kernel) (by decide +kernel)
theorem wl_L_33 : Cond.methodLink RL 33 yX5_run ∈ fw_LW := fw_t3 101 (by decide +kernel) (by decide +kernel)
theorem wl_L_36 : Cond.methodLink RL 36 yX5_value ∈ fw_LW := fw_t3 115 (by decide +kernel) (by decide +kernel)
theorem wl_L_39 : Cond.methodLink RL 39 yX5_courier ∈ fw_LW := fw_t3 122 (by decide +kernel) (by decide +kernel)
theorem wl_L_42 : Cond.methodLink RL 42 yX5_parcel ∈ fw_LW := fw_t3 130 (by decide +kernel) (by decide +kernel)
theorem wl_L_45 : Cond.methodLink RL 45 yX5_legs ∈ fw_LW := fw_t3 139 (by decide +kernel) (by decide +kernel)
theorem wl_L_49 : Cond.methodLink RL 49 yX5_distance ∈ fw_LW := fw_t3 148 (by decide +kernel) (by decide +kernel)
theorem wl_L_52 : Cond.methodLink RL 52 yX5_suited ∈ fw_LW := fw_t3 158 (by decide +kernel) (by decide +kernel)
theorem wl_L_55 : Cond.methodLink RL 55 yX5_leastRelay ∈ fw_LW := fw_t3 171 (by decide +kernel) (by decide +kernel)
theorem wl_L_58 : Cond.methodLink RL 58 yX5_paidIn ∈ fw_LW := fw_t3 183 (by decide +kernel) (by decide +kernel)
theorem wl_L_61 : Cond.methodLink RL 61 yX5_bestZone ∈ fw_LW := fw_t3 190 (by decide +kernel) (by decide +kernel)
theorem wl_L_64 : Cond.methodLink RL 64 yX5_worth ∈ fw_LW := fw_t3 202 (by decide +kernel) (by decide +kernel)
theorem wl_L_67 : Cond.methodLink RL 67 yX5_append ∈ fw_LW := fw_t3 214 (by decide +kernel) (by decide +kernel)
theorem wl_L_70 : Cond.methodLink RL 70 yX5_undo ∈ fw_LW := fw_t3 225 (by decide +kernel) (by decide +kernel)
theorem wl_L_74 : Cond.methodLink RL 74 yX5_init ∈ fw_LW := fw_t1 18 (by decide +kernel) (by decide +kernel)
theorem wl_L_77 : Cond.methodLink RL 77 yX6_init ∈ fw_LW := fw_t3 235 (by decide +kernel) (by decide +kernel)
theorem wl_L_78 : Cond.methodLink RL 78 yL_addCourier ∈ fw_LW := fw_t2 186 (by decide +kernel) (by decide +kernel)
theorem wl_L_83 : Cond.methodLink RL 83 yX6_addCourier ∈ fw_LW := fw_t4 37 (by decide +kernel) (by decide +kernel)
theorem wl_L_84 : Cond.methodLink RL 84 yX6_thrown ∈ fw_LW := fw_t4 33 (by decide +kernel) (by decide +kernel)
theorem wl_L_87 : Cond.methodLink RL 87 yL_setArea ∈ fw_LW := fw_t3 47 (by decide +kernel) (by decide +kernel)
theorem wl_L_89 : Cond.methodLink RL 89 yX6_setArea ∈ fw_LW := fw_t4 78 (by decide +kernel) (by decide +kernel)
theorem wl_L_90 : Cond.methodLink RL 90 yL_give ∈ fw_LW := fw_t3 71 (by decide +kernel) (by decide +kernel)
theorem wl_L_93 : Cond.methodLink RL 93 yX6_give ∈ fw_LW := fw_t4 90 (by decide +kernel) (by decide +kernel)
theorem wl_L_94 : Cond.methodLink RL 94 yL_setGrace ∈ fw_LW := fw_t3 80 (by decide +kernel) (by decide +kernel)
theorem wl_L_97 : Cond.methodLink RL 97 yX6_setGrace ∈ fw_LW := fw_t4 102 (by decide +kernel) (by decide +kernel)
theorem wl_L_98 : Cond.methodLink RL 98 yL_drop ∈ fw_LW := fw_t3 87 (by decide +kernel) (by decide +kernel)
theorem wl_L_100 : Cond.methodLink RL 100 yX6_drop ∈ fw_LW := fw_t4 106 (by decide +kernel) (by decide +kernel)
theorem wl_L_101 : Cond.methodLink RL 101 yL_run ∈ fw_LW := fw_t3 98 (by decide +kernel) (by decide +kernel)
theorem wl_L_103 : Cond.methodLink RL 103 yX6_run ∈ fw_LW := fw_t4 114 (by decide +kernel) (by decide +kernel)
theorem wl_L_104 : Cond.methodLink RL 104 yL_value ∈ fw_LW := fw_t3 112 (by decide +kernel) (by decide +kernel)
theorem wl_L_106 : Cond.methodLink RL 106 yX6_value ∈ fw_LW := fw_t4 177 (by decide +kernel) (by decide +kernel)
theorem wl_L_107 : Cond.methodLink RL 107 yL_courier ∈ fw_LW := fw_t3 119 (by decide +kernel) (by decide +kernel)
theorem wl_L_109 : Cond.methodLink RL 109 yX6_courier ∈ fw_LW := fw_t4 185 (by decide +kernel) (by decide +kernel)
theorem wl_L_110 : Cond.methodLink RL 110 yL_parcel ∈ fw_LW := fw_t3 127 (by decide +kernel) (by decide +kernel)
theorem wl_L_112 : Cond.methodLink RL 112 yX6_parcel ∈ fw_LW := fw_t4 193 (by decide +kernel) (by decide +kernel)
theorem wl_L_113 : Cond.methodLink RL 113 yL_legs ∈ fw_LW := fw_t3 136 (by decide +kernel) (by decide +kernel)
theorem wl_L_116 : Cond.methodLink RL 116 yX6_legs ∈ fw_LW := fw_t4 205 (by decide +kernel) (by decide +kernel)
theorem wl_L_117 : Cond.methodLink RL 117 yL_distance ∈ fw_LW := fw_t3 145 (by decide +kernel) (by decide +kernel)
theorem wl_L_119 : Cond.methodLink RL 119 yX6_distance ∈ fw_LW := fw_t4 209 (by decide +kernel) (by decide +kernel)
theorem wl_L_120 : Cond.methodLink RL 120 yL_suited ∈ fw_LW := fw_t3 155 (by decide +kernel) (by decide +kernel)
theorem wl_L_122 : Cond.methodLink RL 122 yX6_suited ∈ fw_LW := fw_t4 216 (by decide +kernel) (by decide +kernel)
theorem wl_L_123 : Cond.methodLink RL 123 yL_leastRelay ∈ fw_LW := fw_t3 168 (by decide +kernel) (by decide +kernel)
theorem wl_L_125 : Cond.methodLink RL 125 yX6_leastRelay ∈ fw_LW := fw_t4 220 (by decide +kernel) (by decide +kernel)
theorem wl_L_126 : Cond.methodLink RL 126 yX5_punctuality ∈ fw_LW := fw_t1 198 (by decide +kernel) (by decide +kernel)
theorem wl_L_130 : Cond.methodLink RL 130 yX6_punctuality ∈ fw_LW := fw_t4 232 (by decide +kernel) (by decide +kernel)
theorem wl_L_131 : Cond.methodLink RL 131 yL_paidIn ∈ fw_LW := fw_t3 180 (by decide +kernel) (by decide +kernel)
theorem wl_L_133 : Cond.methodLink RL 133 yX6_paidIn ∈ fw_LW := fw_t4 236 (by decide +kernel) (by decide +kernel)
theorem wl_L_134 : Cond.methodLink RL 134 yL_bestZone ∈ fw_LW := fw_t3 187 (by decide +kernel) (by decide +kernel)
theorem wl_L_136 : Cond.methodLink RL 136 yX6_bestZone ∈ fw_LW := fw_t5 11 (by decide +kernel) (by decide +kernel)
theorem wl_L_137 : Cond.methodLink RL 137 yL_worth ∈ fw_LW := fw_t3 199 (by decide +kernel) (by decide +kernel)
theorem wl_L_139 : Cond.methodLink RL 139 yX6_worth ∈ fw_LW := fw_t5 15 (by decide +kernel) (by decide +kernel)
theorem wl_L_140 : Cond.methodLink RL 140 yX5_doneIn ∈ fw_LW := fw_t1 214 (by decide +kernel) (by decide +kernel)
theorem wl_L_143 : Cond.methodLink RL 143 yX6_doneIn ∈ fw_LW := fw_t5 19 (by decide +kernel) (by decide +kernel)
theorem wl_L_144 : Cond.methodLink RL 144 yL_append ∈ fw_LW := fw_t3 211 (by decide +kernel) (by decide +kernel)
theorem wl_L_146 : Cond.methodLink RL 146 yX6_append ∈ fw_LW := fw_t5 27 (by decide +kernel) (by decide +kernel)
theorem wl_L_147 : Cond.methodLink RL 147 yX5_clearText ∈ fw_LW := fw_t2 82 (by decide +kernel) (by decide +kernel)
theorem wl_L_150 : Cond.methodLink RL 150 yX6_clearText ∈ fw_LW := fw_t5 31 (by decide +kernel) (by decide +kernel)
theorem wl_L_151 : Cond.methodLink RL 151 yX5_parse ∈ fw_LW := fw_t2 86 (by decide +kernel) (by decide +kernel)
theorem wl_L_154 : Cond.methodLink RL 154 yX6_parse ∈ fw_LW := fw_t5 35 (by decide +kernel) (by decide +kernel)
theorem wl_L_155 : Cond.methodLink RL 155 yL_undo ∈ fw_LW := fw_t3 222 (by decide +kernel) (by decide +kernel)
theorem wl_L_158 : Cond.methodLink RL 158 yX6_undo ∈ fw_LW := fw_t5 51 (by decide +kernel) (by decide +kernel)
theorem wl_L_159 : Cond.methodLink RL 159 yX5_digest ∈ fw_LW := fw_t2 151 (by decide +kernel) (by decide +kernel)
theorem wl_L_163 : Cond.methodLink RL 163 yX6_digest ∈ fw_LW := fw_t5 55 (by decide +kernel) (by decide +kernel)
theorem wl_X6_29 : Cond.methodLink RX6 29 yX6_copies ∈ fw_LW := fw_t4 59 (by decide +kernel) (by decide +kernel)
theorem wl_X6_36 : Cond.methodLink RX6 36 yX6_tells ∈ fw_LW := fw_t4 74 (by decide +kernel) (by decide +kernel)
theorem wl_X6_40 : Cond.methodLink RX6 40 yX6_in ∈ fw_LW := fw_t4 45 (by decide +kernel) (by decide +kernel)
theorem wl_X6_44 : Cond.methodLink RX6 44 yX6_of ∈ fw_LW := fw_t4 86 (by decide +kernel) (by decide +kernel)
theorem wl_X6_48 : Cond.methodLink RX6 48 yX6_sets ∈ fw_LW := fw_t4 62 (by decide +kernel) (by decide +kernel)
theorem wl_X6_52 : Cond.methodLink RX6 52 yX6_its ∈ fw_LW := fw_t4 122 (by decide +kernel) (by decide +kernel)
theorem wl_X6_55 : Cond.methodLink RX6 55 yX6_isIn ∈ fw_LW := fw_t4 141 (by decide +kernel) (by decide +kernel)
theorem wl_X6_59 : Cond.methodLink RX6 59 yX6_next ∈ fw_LW := fw_t4 138 (by decide +kernel) (by decide +kernel)
theorem wl_X6_62 : Cond.methodLink RX6 62 yX6_legsOf ∈ fw_LW := fw_t4 153 (by decide +kernel) (by decide +kernel)
theorem wl_X6_65 : Cond.methodLink RX6 65 yX6_puts ∈ fw_LW := fw_t4 98 (by decide +kernel) (by decide +kernel)
theorem wl_X6_68 : Cond.methodLink RX6 68 yX6_shares ∈ fw_LW := fw_t4 149 (by decide +kernel) (by decide +kernel)
theorem wl_X6_72 : Cond.methodLink RX6 72 yX6_frees ∈ fw_LW := fw_t4 66 (by decide +kernel) (by decide +kernel)
theorem wl_X6_76 : Cond.methodLink RX6 76 yX6_delivers ∈ fw_LW := fw_t4 145 (by decide +kernel) (by decide +kernel)
theorem wl_X6_79 : Cond.methodLink RX6 79 yX6_suits ∈ fw_LW := fw_t4 165 (by decide +kernel) (by decide +kernel)
theorem wl_X6_82 : Cond.methodLink RX6 82 yX6_isAsked ∈ fw_LW := fw_t4 169 (by decide +kernel) (by decide +kernel)
theorem wl_X6_85 : Cond.methodLink RX6 85 yX6_carries ∈ fw_LW := fw_t4 134 (by decide +kernel) (by decide +kernel)
theorem wl_X6_88 : Cond.methodLink RX6 88 yX6_goes ∈ fw_LW := fw_t4 157 (by decide +kernel) (by decide +kernel)
theorem wl_X6_91 : Cond.methodLink RX6 91 yX6_chooses ∈ fw_LW := fw_t4 161 (by decide +kernel) (by decide +kernel)
theorem wl_X6_94 : Cond.methodLink RX6 94 yX6_failsOf ∈ fw_LW := fw_t4 173 (by decide +kernel) (by decide +kernel)
theorem wl_X6_97 : Cond.methodLink RX6 97 yX6_tick ∈ fw_LW := fw_t4 130 (by decide +kernel) (by decide +kernel)
theorem wl_X6_101 : Cond.methodLink RX6 101 yX6_isArea ∈ fw_LW := fw_t4 41 (by decide +kernel) (by decide +kernel)
theorem wl_X6_105 : Cond.methodLink RX6 105 yX6_isZone ∈ fw_LW := fw_t4 48 (by decide +kernel) (by decide +kernel)
theorem wl_X6_108 : Cond.methodLink RX6 108 yX6_fails ∈ fw_LW := fw_t4 51 (by decide +kernel) (by decide +kernel)
theorem wl_X6_111 : Cond.methodLink RX6 111 yX6_hold ∈ fw_LW := fw_t4 55 (by decide +kernel) (by decide +kernel)
theorem wl_X6_114 : Cond.methodLink RX6 114 yX6_ends ∈ fw_LW := fw_t4 70 (by decide +kernel) (by decide +kernel)
theorem wl_X6_117 : Cond.methodLink RX6 117 yX6_isCourier ∈ fw_LW := fw_t4 82 (by decide +kernel) (by decide +kernel)
theorem wl_X6_120 : Cond.methodLink RX6 120 yX6_comes ∈ fw_LW := fw_t4 94 (by decide +kernel) (by decide +kernel)
theorem wl_X6_124 : Cond.methodLink RX6 124 yX6_drops ∈ fw_LW := fw_t4 110 (by decide +kernel) (by decide +kernel)
theorem wl_X6_127 : Cond.methodLink RX6 127 yX6_inState ∈ fw_LW := fw_t4 118 (by decide +kernel) (by decide +kernel)
theorem wl_X6_130 : Cond.methodLink RX6 130 yX6_ticks ∈ fw_LW := fw_t4 126 (by decide +kernel) (by decide +kernel)
theorem wl_X6_133 : Cond.methodLink RX6 133 yX6_valueOf ∈ fw_LW := fw_t4 181 (by decide +kernel) (by decide +kernel)
theorem wl_X6_136 : Cond.methodLink RX6 136 yX6_courierOf ∈ fw_LW := fw_t4 189 (by decide +kernel) (by decide +kernel)
theorem wl_X6_139 : Cond.methodLink RX6 139 yX6_isParcel ∈ fw_LW := fw_t4 197 (by decide +kernel) (by decide +kernel)
theorem wl_X6_142 : Cond.methodLink RX6 142 yX6_parcelOf ∈ fw_LW := fw_t4 201 (by decide +kernel) (by decide +kernel)
theorem wl_X6_145 : Cond.methodLink RX6 145 yX6_apart ∈ fw_LW := fw_t4 213 (by decide +kernel) (by decide +kernel)
theorem wl_X6_148 : Cond.methodLink RX6 148 yX6_reach ∈ fw_LW := fw_t4 228 (by decide +kernel) (by decide +kernel)
theorem wl_X6_152 : Cond.methodLink RX6 152 yX6_relays ∈ fw_LW := fw_t4 224 (by decide +kernel) (by decide +kernel)
theorem wl_X6_155 : Cond.methodLink RX6 155 yX6_more ∈ fw_LW := fw_t5 7 (by decide +kernel) (by decide +kernel)
theorem wl_X6_158 : Cond.methodLink RX6 158 yX6_isMany ∈ fw_LW := fw_t5 0 (by decide +kernel) (by decide +kernel)
theorem wl_X6_161 : Cond.methodLink RX6 161 yX6_paidBy ∈ fw_LW := fw_t5 3 (by decide +kernel) (by decide +kernel)
theorem wl_X6_164 : Cond.methodLink RX6 164 yX6_isDone ∈ fw_LW := fw_t5 23 (by decide +kernel) (by decide +kernel)
theorem wl_X6_177 : Cond.methodLink RX6 177 yX6_isAt ∈ fw_LW := fw_t5 47 (by decide +kernel) (by decide +kernel)
theorem wl_X6_180 : Cond.methodLink RX6 180 yX6_isNumber ∈ fw_LW := fw_t5 43 (by decide +kernel) (by decide +kernel)
theorem wl_X6_184 : Cond.methodLink RX6 184 yX6_isItem ∈ fw_LW := fw_t5 39 (by decide +kernel) (by decide +kernel)
theorem wl_X6_195 : Cond.methodLink RX6 195 yX6_mix ∈ fw_LW := fw_t5 60 (by decide +kernel) (by decide +kernel)
theorem wf_X5_10 : Cond.fieldLink RX5 10 "CourierRelay" "now" "LCourierRelay$Exchange;" ∈ fw_LW := fw_t1 185 (by decide +kernel) (by decide +kernel)
theorem wf_X5_16 : Cond.fieldLink RX5 16 "CourierRelay" "trial" "LCourierRelay$Exchange;" ∈ fw_LW := fw_t1 186 (by decide +kernel) (by decide +kernel)
theorem wf_X5_22 : Cond.fieldLink RX5 22 "CourierRelay" "history" "LCourierRelay$History;" ∈ fw_LW := fw_t1 187 (by decide +kernel) (by decide +kernel)
theorem wf_X5_29 : Cond.fieldLink RX5 29 "CourierRelay" "text" "LCourierRelay$ParcelText;" ∈ fw_LW := fw_t1 188 (by decide +kernel) (by decide +kernel)
theorem wf_X5_43 : Cond.fieldLink RX5 43 "CourierRelay$Exchange" "courierCount" "I" ∈ fw_LW := fw_t1 114 (by decide +kernel) (by decide +kernel)
theorem wf_X5_65 : Cond.fieldLink RX5 65 "CourierRelay$Courier" "area" "I" ∈ fw_LW := fw_t1 40 (by decide +kernel) (by decide +kernel)
theorem wf_X5_76 : Cond.fieldLink RX5 76 "CourierRelay$Exchange" "parcelCount" "I" ∈ fw_LW := fw_t1 116 (by decide +kernel) (by decide +kernel)
theorem wf_X5_83 : Cond.fieldLink RX5 83 "CourierRelay$Exchange" "grace" "I" ∈ fw_LW := fw_t1 112 (by decide +kernel) (by decide +kernel)
theorem wf_X5_86 : Cond.fieldLink RX5 86 "CourierRelay$Courier" "parcel" "I" ∈ fw_LW := fw_t1 49 (by decide +kernel) (by decide +kernel)
theorem wf_X5_96 : Cond.fieldLink RX5 96 "CourierRelay$Exchange" "time" "I" ∈ fw_LW := fw_t1 110 (by decide +kernel) (by decide +kernel)
theorem wf_X5_135 : Cond.fieldLink RX5 135 "CourierRelay$Parcel" "zone" "I" ∈ fw_LW := fw_t1 79 (by decide +kernel) (by decide +kernel)
theorem wf_X5_138 : Cond.fieldLink RX5 138 "CourierRelay$Parcel" "destination" "I" ∈ fw_LW := fw_t1 71 (by decide +kernel) (by decide +kernel)
theorem wf_X5_147 : Cond.fieldLink RX5 147 "CourierRelay$Parcel" "origin" "I" ∈ fw_LW := fw_t1 68 (by decide +kernel) (by decide +kernel)
theorem wf_X5_175 : Cond.fieldLink RX5 175 "CourierRelay$ParcelText" "length" "I" ∈ fw_LW := fw_t1 170 (by decide +kernel) (by decide +kernel)
theorem wf_X5_184 : Cond.fieldLink RX5 184 "CourierRelay$ParcelText" "items" "I" ∈ fw_LW := fw_t1 172 (by decide +kernel) (by decide +kernel)
theorem wf_X5_190 : Cond.fieldLink RX5 190 "CourierRelay$History" "count" "I" ∈ fw_LW := fw_t1 153 (by decide +kernel) (by decide +kernel)
theorem wf_X0_9 : Cond.fieldLink RX0 9 "CourierRelay$Courier" "parcel" "I" ∈ fw_LW := fw_t1 48 (by decide +kernel) (by decide +kernel)
theorem wf_X0_15 : Cond.fieldLink RX0 15 "CourierRelay$Courier" "area" "I" ∈ fw_LW := fw_t1 39 (by decide +kernel) (by decide +kernel)
theorem wf_X0_18 : Cond.fieldLink RX0 18 "CourierRelay$Courier" "zone" "I" ∈ fw_LW := fw_t1 42 (by decide +kernel) (by decide +kernel)
theorem wf_X0_21 : Cond.fieldLink RX0 21 "CourierRelay$Courier" "tips" "I" ∈ fw_LW := fw_t1 44 (by decide +kernel) (by decide +kernel)
theorem wf_X0_27 : Cond.fieldLink RX0 27 "CourierRelay$Courier" "doing" "I" ∈ fw_LW := fw_t1 46 (by decide +kernel) (by decide +kernel)
theorem wf_X1_11 : Cond.fieldLink RX1 11 "CourierRelay$Exchange" "couriers" "[LCourierRelay$Courier;" ∈ fw_LW := fw_t1 120 (by decide +kernel) (by decide +kernel)
theorem wf_X1_19 : Cond.fieldLink RX1 19 "CourierRelay$Exchange" "parcels" "[LCourierRelay$Parcel;" ∈ fw_LW := fw_t1 121 (by decide +kernel) (by decide +kernel)
theorem wf_X1_23 : Cond.fieldLink RX1 23 "CourierRelay$Exchange" "grace" "I" ∈ fw_LW := fw_t1 111 (by decide +kernel) (by decide +kernel)
theorem wf_X1_29 : Cond.fieldLink RX1 29 "CourierRelay$Exchange" "time" "I" ∈ fw_LW := fw_t1 109 (by decide +kernel) (by decide +kernel)
theorem wf_X1_32 : Cond.fieldLink RX1 32 "CourierRelay$Exchange" "courierCount" "I" ∈ fw_LW := fw_t1 113 (by decide +kernel) (by decide +kernel)
theorem wf_X1_35 : Cond.fieldLink RX1 35 "CourierRelay$Exchange" "parcelCount" "I" ∈ fw_LW := fw_t1 115 (by decide +kernel) (by decide +kernel)
theorem wf_X1_38 : Cond.fieldLink RX1 38 "CourierRelay$Exchange" "paid" "I" ∈ fw_LW := fw_t1 117 (by decide +kernel) (by decide +kernel)
theorem wf_X1_41 : Cond.fieldLink RX1 41 "CourierRelay$Exchange" "handovers" "I" ∈ fw_LW := fw_t1 118 (by decide +kernel) (by decide +kernel)
theorem wf_X1_44 : Cond.fieldLink RX1 44 "CourierRelay$Exchange" "moves" "I" ∈ fw_LW := fw_t1 119 (by decide +kernel) (by decide +kernel)
theorem wf_X1_69 : Cond.fieldLink RX1 69 "CourierRelay$Courier" "parcel" "I" ∈ fw_LW := fw_t1 50 (by decide +kernel) (by decide +kernel)
theorem wf_X1_72 : Cond.fieldLink RX1 72 "CourierRelay$Parcel" "state" "I" ∈ fw_LW := fw_t1 77 (by decide +kernel) (by decide +kernel)
theorem wf_X1_78 : Cond.fieldLink RX1 78 "CourierRelay$Courier" "area" "I" ∈ fw_LW := fw_t1 41 (by decide +kernel) (by decide +kernel)
theorem wf_X1_92 : Cond.fieldLink RX1 92 "CourierRelay$Courier" "doing" "I" ∈ fw_LW := fw_t1 47 (by decide +kernel) (by decide +kernel)
theorem wf_X1_109 : Cond.fieldLink RX1 109 "CourierRelay$Courier" "zone" "I" ∈ fw_LW := fw_t1 43 (by decide +kernel) (by decide +kernel)
theorem wf_X1_112 : Cond.fieldLink RX1 112 "CourierRelay$Parcel" "destination" "I" ∈ fw_LW := fw_t1 70 (by decide +kernel) (by decide +kernel)
theorem wf_X1_123 : Cond.fieldLink RX1 123 "CourierRelay$Parcel" "zone" "I" ∈ fw_LW := fw_t1 80 (by decide +kernel) (by decide +kernel)
theorem wf_X1_131 : Cond.fieldLink RX1 131 "CourierRelay$Parcel" "deliveredAt" "I" ∈ fw_LW := fw_t1 82 (by decide +kernel) (by decide +kernel)
theorem wf_X1_134 : Cond.fieldLink RX1 134 "CourierRelay$Parcel" "cutOff" "I" ∈ fw_LW := fw_t1 73 (by decide +kernel) (by decide +kernel)
theorem wf_X1_137 : Cond.fieldLink RX1 137 "CourierRelay$Parcel" "tip" "I" ∈ fw_LW := fw_t1 75 (by decide +kernel) (by decide +kernel)
theorem wf_X1_140 : Cond.fieldLink RX1 140 "CourierRelay$Parcel" "paid" "I" ∈ fw_LW := fw_t1 84 (by decide +kernel) (by decide +kernel)
theorem wf_X1_144 : Cond.fieldLink RX1 144 "CourierRelay$Courier" "tips" "I" ∈ fw_LW := fw_t1 45 (by decide +kernel) (by decide +kernel)
theorem wf_X2_11 : Cond.fieldLink RX2 11 "CourierRelay$History" "states" "[LCourierRelay$Exchange;" ∈ fw_LW := fw_t1 150 (by decide +kernel) (by decide +kernel)
theorem wf_X2_18 : Cond.fieldLink RX2 18 "CourierRelay$History" "oldest" "I" ∈ fw_LW := fw_t1 151 (by decide +kernel) (by decide +kernel)
theorem wf_X2_22 : Cond.fieldLink RX2 22 "CourierRelay$History" "count" "I" ∈ fw_LW := fw_t1 152 (by decide +kernel) (by decide +kernel)
theorem wf_X3_9 : Cond.fieldLink RX3 9 "CourierRelay$Parcel" "legs" "[I" ∈ fw_LW := fw_t1 85 (by decide +kernel) (by decide +kernel)
theorem wf_X3_15 : Cond.fieldLink RX3 15 "CourierRelay$Parcel" "shares" "[I" ∈ fw_LW := fw_t1 86 (by decide +kernel) (by decide +kernel)
theorem wf_X3_18 : Cond.fieldLink RX3 18 "CourierRelay$Parcel" "origin" "I" ∈ fw_LW := fw_t1 67 (by decide +kernel) (by decide +kernel)
theorem wf_X3_22 : Cond.fieldLink RX3 22 "CourierRelay$Parcel" "destination" "I" ∈ fw_LW := fw_t1 69 (by decide +kernel) (by decide +kernel)
theorem wf_X3_25 : Cond.fieldLink RX3 25 "CourierRelay$Parcel" "cutOff" "I" ∈ fw_LW := fw_t1 72 (by decide +kernel) (by decide +kernel)
theorem wf_X3_28 : Cond.fieldLink RX3 28 "CourierRelay$Parcel" "tip" "I" ∈ fw_LW := fw_t1 74 (by decide +kernel) (by decide +kernel)
theorem wf_X3_31 : Cond.fieldLink RX3 31 "CourierRelay$Parcel" "state" "I" ∈ fw_LW := fw_t1 76 (by decide +kernel) (by decide +kernel)
theorem wf_X3_34 : Cond.fieldLink RX3 34 "CourierRelay$Parcel" "zone" "I" ∈ fw_LW := fw_t1 78 (by decide +kernel) (by decide +kernel)
theorem wf_X3_37 : Cond.fieldLink RX3 37 "CourierRelay$Parcel" "deliveredAt" "I" ∈ fw_LW := fw_t1 81 (by decide +kernel) (by decide +kernel)
theorem wf_X3_40 : Cond.fieldLink RX3 40 "CourierRelay$Parcel" "paid" "I" ∈ fw_LW := fw_t1 83 (by decide +kernel) (by decide +kernel)
theorem wf_X4_9 : Cond.fieldLink RX4 9 "CourierRelay$ParcelText" "bytes" "[I" ∈ fw_LW := fw_t1 167 (by decide +kernel) (by decide +kernel)
theorem wf_X4_15 : Cond.fieldLink RX4 15 "CourierRelay$ParcelText" "numbers" "[I" ∈ fw_LW := fw_t1 168 (by decide +kernel) (by decide +kernel)
theorem wf_X4_18 : Cond.fieldLink RX4 18 "CourierRelay$ParcelText" "length" "I" ∈ fw_LW := fw_t1 169 (by decide +kernel) (by decide +kernel)
theorem wf_X4_26 : Cond.fieldLink RX4 26 "CourierRelay$ParcelText" "position" "I" ∈ fw_LW := fw_t1 173 (by decide +kernel) (by decide +kernel)
theorem wf_X4_29 : Cond.fieldLink RX4 29 "CourierRelay$ParcelText" "items" "I" ∈ fw_LW := fw_t1 171 (by decide +kernel) (by decide +kernel)
theorem wf_X6_7 : Cond.fieldLink RX6 7 "CourierRelayModel" "s" "[I" ∈ fw_LW := fw_t3 239 (by decide +kernel) (by decide +kernel)
theorem wf_X6_13 : Cond.fieldLink RX6 13 "CourierRelayModel" "past" "[I" ∈ fw_LW := fw_t4 0 (by decide +kernel) (by decide +kernel)
theorem wf_X6_16 : Cond.fieldLink RX6 16 "CourierRelayModel" "aside" "[I" ∈ fw_LW := fw_t4 1 (by decide +kernel) (by decide +kernel)
theorem wf_X6_19 : Cond.fieldLink RX6 19 "CourierRelayModel" "kept" "[I" ∈ fw_LW := fw_t4 2 (by decide +kernel) (by decide +kernel)
theorem wf_X6_22 : Cond.fieldLink RX6 22 "CourierRelayModel" "text" "[I" ∈ fw_LW := fw_t4 4 (by decide +kernel) (by decide +kernel)
theorem wf_X6_25 : Cond.fieldLink RX6 25 "CourierRelayModel" "thrown" "I" ∈ fw_LW := fw_t4 6 (by decide +kernel) (by decide +kernel)
theorem wf_X6_33 : Cond.fieldLink RX6 33 "CourierRelayModel" "pasts" "I" ∈ fw_LW := fw_t4 3 (by decide +kernel) (by decide +kernel)
theorem wf_X6_168 : Cond.fieldLink RX6 168 "CourierRelayModel" "typed" "I" ∈ fw_LW := fw_t4 5 (by decide +kernel) (by decide +kernel)
theorem wf_X6_171 : Cond.fieldLink RX6 171 "CourierRelayModel" "at" "I" ∈ fw_LW := fw_t4 7 (by decide +kernel) (by decide +kernel)
theorem wf_X6_174 : Cond.fieldLink RX6 174 "CourierRelayModel" "number" "I" ∈ fw_LW := fw_t4 8 (by decide +kernel) (by decide +kernel)
theorem wf_X6_189 : Cond.fieldLink RX6 189 "CourierRelayModel" "h" "J" ∈ fw_LW := fw_t4 9 (by decide +kernel) (by decide +kernel)
theorem wk_X5_207 : Cond.constant RX5 207 (65535 : Int32) ∈ fw_LW := fw_t2 198 (by decide +kernel) (by decide +kernel)
theorem wk_X6_100 : Cond.constant RX6 100 (65535 : Int32) ∈ fw_LW := fw_t4 44 (by decide +kernel) (by decide +kernel)
theorem wk_X5_196 : Cond.constantLong RX5 196 (102703 : Int64) ∈ fw_LW := fw_t2 155 (by decide +kernel) (by decide +kernel)
theorem wk_X5_198 : Cond.constantLong RX5 198 (31 : Int64) ∈ fw_LW := fw_t2 156 (by decide +kernel) (by decide +kernel)
theorem wk_X1_173 : Cond.constantLong RX1 173 (31 : Int64) ∈ fw_LW := fw_t2 165 (by decide +kernel) (by decide +kernel)
theorem wk_X6_187 : Cond.constantLong RX6 187 (31 : Int64) ∈ fw_LW := fw_t5 64 (by decide +kernel) (by decide +kernel)
theorem wk_X6_193 : Cond.constantLong RX6 193 (3313 : Int64) ∈ fw_LW := fw_t5 59 (by decide +kernel) (by decide +kernel)
theorem wq_X5_7 : Cond.classLink RX5 7 "CourierRelay$Exchange" ∈ fw_LW := fw_t1 24 (by decide +kernel) (by decide +kernel)
theorem wq_X5_19 : Cond.classLink RX5 19 "CourierRelay$History" ∈ fw_LW := fw_t1 141 (by decide +kernel) (by decide +kernel)
theorem wq_X5_26 : Cond.classLink RX5 26 "CourierRelay$ParcelText" ∈ fw_LW := fw_t1 161 (by decide +kernel) (by decide +kernel)
theorem wq_X5_40 : Cond.classLink RX5 40 "java/lang/IllegalArgumentException" ∈ fw_LW := fw_t2 200 (by decide +kernel) (by decide +kernel)
theorem wq_X5_47 : Cond.classLink RX5 47 "java/lang/IllegalStateException" ∈ fw_LW := fw_t3 23 (by decide +kernel) (by decide +kernel)
theorem wq_X5_62 : Cond.classLink RX5 62 "java/lang/IndexOutOfBoundsException" ∈ fw_LW := fw_t3 56 (by decide +kernel) (by decide +kernel)
theorem wq_X1_9 : Cond.classLink RX1 9 "CourierRelay$Courier" ∈ fw_LW := fw_t1 30 (by decide +kernel) (by decide +kernel)
theorem wq_X1_17 : Cond.classLink RX1 17 "CourierRelay$Parcel" ∈ fw_LW := fw_t1 32 (by decide +kernel) (by decide +kernel)
theorem wq_X2_9 : Cond.classLink RX2 9 "CourierRelay$Exchange" ∈ fw_LW := fw_t1 147 (by decide +kernel) (by decide +kernel)
theorem wq_L_8 : Cond.classLink RL 8 "CourierRelay" ∈ fw_LW := fw_t1 16 (by decide +kernel) (by decide +kernel)
theorem wq_L_13 : Cond.classLink RL 13 "java/lang/IllegalArgumentException" ∈ fw_LW := fw_t2 189 (by decide +kernel) (by decide +kernel)
theorem wq_L_15 : Cond.classLink RL 15 "java/lang/IllegalStateException" ∈ fw_LW := fw_t2 190 (by decide +kernel) (by decide +kernel)
theorem wq_L_20 : Cond.classLink RL 20 "java/lang/IndexOutOfBoundsException" ∈ fw_LW := fw_t3 50 (by decide +kernel) (by decide +kernel)
theorem wq_L_75 : Cond.classLink RL 75 "CourierRelayModel" ∈ fw_LW := fw_t3 233 (by decide +kernel) (by decide +kernel)
theorem wz_IllegalArgumentException : Cond.initialized "java/lang/IllegalArgumentException" ∈ fw_LW := fw_t1 11 (by decide +kernel) (by decide +kernel)
theorem wz_IllegalStateException : Cond.initialized "java/lang/IllegalStateException" ∈ fw_LW := fw_t1 12 (by decide +kernel) (by decide +kernel)
theorem wz_IndexOutOfBoundsException : Cond.initialized "java/lang/IndexOutOfBoundsException" ∈ fw_LW := fw_t1 15 (by decide +kernel) (by decide +kernel)
theorem wz_Math : Cond.initialized "java/lang/Math" ∈ fw_LW := fw_t1 13 (by decide +kernel) (by decide +kernel)
theorem wz_System : Cond.initialized "java/lang/System" ∈ fw_LW := fw_t1 14 (by decide +kernel) (by decide +kernel)
theorem wb_RX0 : Cond.instantiable RX0 5 ∈ fw_LW := fw_t1 34 (by decide +kernel) (by decide +kernel)
theorem wb_RX1 : Cond.instantiable RX1 9 ∈ fw_LW := fw_t1 25 (by decide +kernel) (by decide +kernel)
theorem wb_RX2 : Cond.instantiable RX2 3 ∈ fw_LW := fw_t1 142 (by decide +kernel) (by decide +kernel)
theorem wb_RX3 : Cond.instantiable RX3 10 ∈ fw_LW := fw_t1 62 (by decide +kernel) (by decide +kernel)
theorem wb_RX4 : Cond.instantiable RX4 5 ∈ fw_LW := fw_t1 162 (by decide +kernel) (by decide +kernel)
theorem wb_RX5 : Cond.instantiable RX5 4 ∈ fw_LW := fw_t1 17 (by decide +kernel) (by decide +kernel)
theorem wb_RX6 : Cond.instantiable RX6 11 ∈ fw_LW := fw_t3 234 (by decide +kernel) (by decide +kernel)
theorem wu_0 : ∀ w ∈ u_ws RX0 TX0 5, w ∈ fw_LW := by
  have h : (u_ws RX0 TX0 5).all (fun w => decide (w ∈ tables_1) && goodWord w) = true := by decide +kernel
  intro w hw
  have h1 := List.all_eq_true.mp h w hw
  simp only [Bool.and_eq_true, decide_eq_true_eq] at h1
  exact fw_tin h1.1 h1.2
theorem wu_1 : ∀ w ∈ u_ws RX1 TX1 9, w ∈ fw_LW := by
  have h : (u_ws RX1 TX1 9).all (fun w => decide (w ∈ tables_1) && goodWord w) = true := by decide +kernel
  intro w hw
  have h1 := List.all_eq_true.mp h w hw
  simp only [Bool.and_eq_true, decide_eq_true_eq] at h1
  exact fw_tin h1.1 h1.2
theorem wu_2 : ∀ w ∈ u_ws RX2 TX2 3, w ∈ fw_LW := by
  have h : (u_ws RX2 TX2 3).all (fun w => decide (w ∈ tables_1) && goodWord w) = true := by decide +kernel
  intro w hw
  have h1 := List.all_eq_true.mp h w hw
  simp only [Bool.and_eq_true, decide_eq_true_eq] at h1
  exact fw_tin h1.1 h1.2
theorem wu_3 : ∀ w ∈ u_ws RX3 TX3 10, w ∈ fw_LW := by
  have h : (u_ws RX3 TX3 10).all (fun w => decide (w ∈ tables_1) && goodWord w) = true := by decide +kernel
  intro w hw
  have h1 := List.all_eq_true.mp h w hw
  simp only [Bool.and_eq_true, decide_eq_true_eq] at h1
  exact fw_tin h1.1 h1.2
theorem wu_4 : ∀ w ∈ u_ws RX4 TX4 5, w ∈ fw_LW := by
  have h : (u_ws RX4 TX4 5).all (fun w => decide (w ∈ tables_1) && goodWord w) = true := by decide +kernel
  intro w hw
  have h1 := List.all_eq_true.mp h w hw
  simp only [Bool.and_eq_true, decide_eq_true_eq] at h1
  exact fw_tin h1.1 h1.2
theorem wu_5 : ∀ w ∈ u_ws RX5 TX5 4, w ∈ fw_LW := by
  have h : (u_ws RX5 TX5 4).all (fun w => decide (w ∈ tables_1) && goodWord w) = true := by decide +kernel
  intro w hw
  have h1 := List.all_eq_true.mp h w hw
  simp only [Bool.and_eq_true, decide_eq_true_eq] at h1
  exact fw_tin h1.1 h1.2
theorem wu_6 : ∀ w ∈ u_ws RX6 TX6 11, w ∈ fw_LW := by
  have h : (u_ws RX6 TX6 11).all (fun w => decide (w ∈ tables_1) && goodWord w) = true := by decide +kernel
  intro w hw
  have h1 := List.all_eq_true.mp h w hw
  simp only [Bool.and_eq_true, decide_eq_true_eq] at h1
  exact fw_tin h1.1 h1.2
/-- the links between nest mates -/
def fw_nest : List (String × Nat × MethodName × String) := [(RX5, 28, yX4_init, "CourierRelay"), (RX1, 28, yX3_init, "CourierRelay"), (RX1, 115, yX5_nextZone, "CourierRelay"), (RX1, 119, yX5_holds, "CourierRelay"), (RX3, 43, yX5_copyRow, "CourierRelay"), (RX3, 47, yX5_holds, "CourierRelay"), (RX3, 51, yX5_nextZone, "CourierRelay"), (RX3, 55, yX5_at, "CourierRelay"), (RX3, 59, yX5_sum, "CourierRelay"), (RX4, 22, yX5_at, "CourierRelay"), (RX4, 58, yX5_isZone, "CourierRelay"), (RX4, 65, yX5_isCutOff, "CourierRelay"), (RX4, 68, yX5_isTip, "CourierRelay")]
theorem fw_nest_in : ∀ q ∈ fw_nest, Cond.methodLinkNest q.1 q.2.1 q.2.2.1 q.2.2.2 ∈ lw_tbl := by
  have h : (fw_nest.map fun q => Cond.methodLinkNest q.1 q.2.1 q.2.2.1 q.2.2.2).all (fun w => decide (w ∈ tables_1)) = true := by decide +kernel
  intro q hq
  have h1 := List.all_eq_true.mp h _ (List.mem_map_of_mem hq)
  exact List.mem_append_right _ (of_decide_eq_true h1)
end
section
/-! THE FRAME: a memory of ints by address and slot, a walker over decoded code, and what it is worth over the machine -/
section FW
/-- ints by address and slot; longs by a number of their own (0: the field h, 1: the row of the law); how many cells came since the law's loop began -/
abbrev fw_M : Type := (Nat → Nat → Int32) × (Nat → Int64) × Nat
def fw_up (V : Nat → Nat → Int32) (a k : Nat) (x : Int32) : Nat → Nat → Int32 := fun b => if b = a then upd (V a) k x else V b
def fw_st (M : fw_M) (a k : Nat) (x : Int32) : fw_M := (fw_up M.1 a k x, M.2.1, M.2.2)
def fw_stl (M : fw_M) (j : Nat) (x : Int64) : fw_M := (M.1, vp_updL M.2.1 j x, M.2.2)
def fw_row (M : fw_M) (a : Nat) (f : Nat → Int32) : fw_M := (fun b => if b = a then f else M.1 b, M.2.1, M.2.2)
theorem fw_up_same {V : Nat → Nat → Int32} {a k : Nat} {x : Int32} : fw_up V a k x a = upd (V a) k x := if_pos rfl
theorem fw_up_ne {V : Nat → Nat → Int32} {a b k : Nat} {x : Int32} (h : b ≠ a) : fw_up V a k x b = V b := if_neg h
/-! where things lie: an exchange takes 81 cells (itself, its row of couriers, its row of parcels, six couriers, and for each of 24 parcels itself, its legs, its shares) -/
def fw_kx (r : Nat) : Nat := if r = 0 then 1 else if r = 1 then 8 else if r = 2 then 10 else if r < 9 then 0 else if (r - 9) % 3 = 0 then 3 else 7
def fw_ko (o : Nat) : Nat := if o = 0 then 5 else if o < 163 then fw_kx ((o - 1) % 81) else if o = 163 then 2 else if o = 164 then 9 else if o < 489 then fw_kx ((o - 165) % 81) else if o = 489 then 4 else if o < 492 then 7 else if o = 492 then 6 else if o < 498 then 7 else if o = 498 then 11 else 12
def fw_kd (B a : Nat) : Nat := if a < B then 12 else fw_ko (a - B)
def fw_lo (o : Nat) : Nat := if o < 489 then 6 else if o = 490 then 150 else if o = 491 then 96 else if o = 493 then 517 else if o = 494 then 2068 else if o = 495 then 517 else if o = 496 then 517 else 150
def fw_len (B a : Nat) : Nat := fw_lo (a - B)
/-- what a field holds: 0 an int, 1 the long, n + 2 the thing n cells behind -/
def fw_fc : Nat → Nat → Nat
  | 1, 7 => 3
  | 1, 8 => 4
  | 2, 0 => 3
  | 3, 8 => 3
  | 3, 9 => 4
  | 4, 0 => 3
  | 4, 1 => 4
  | 5, 0 => 3
  | 5, 1 => 84
  | 5, 2 => 165
  | 5, 3 => 491
  | 6, 0 => 3
  | 6, 1 => 4
  | 6, 2 => 5
  | 6, 3 => 6
  | 6, 5 => 7
  | 6, 10 => 1
  | _, _ => 0
def fw_fw (n a k : Nat) (M : fw_M) : Value := match n with
  | 0 => .int (M.1 a k)
  | 1 => .long (M.2.1 0)
  | n + 2 => .ref (a + n)
def fw_fv (ci k a : Nat) (M : fw_M) : Value := fw_fw (fw_fc ci k) a k M
def fw_nf : Nat → Nat
  | 0 => 5
  | 1 => 9
  | 2 => 3
  | 3 => 10
  | 4 => 5
  | 5 => 4
  | _ => 11
def fw_cl : Nat → vw_C
  | 0 => (RX0, TX0, 5)
  | 1 => (RX1, TX1, 9)
  | 2 => (RX2, TX2, 3)
  | 3 => (RX3, TX3, 10)
  | 4 => (RX4, TX4, 5)
  | 5 => (RX5, TX5, 4)
  | _ => (RX6, TX6, 11)
abbrev fw_G : Type := va_G × (Nat → ClassId)
def fw_tys (g : fw_G) : List (ClassId × FieldType) := [(g.2 0, .int), (g.2 1, .object RX0), (g.2 2, .object RX1), (g.2 3, .object RX3), (g.2 4, .long)]
def fw_fs (ci a : Nat) (M : fw_M) : List Value := (List.range (fw_nf ci)).map (fun k => fw_fv ci k a M)
def fw_el (k a j : Nat) : Nat := if k = 8 then a + 2 + j else if k = 9 then a + 1 + 81 * j else a + 7 + 3 * j
def fw_al (k : Nat) : Nat := if k = 8 then 6 else if k = 9 then 4 else 24
def fw_ct (g : fw_G) (B : Nat) (M : fw_M) (o : Nat) : va_E :=
  if fw_ko o < 7 then .inr (fw_ko o, fw_fs (fw_ko o) (B + o) M)
  else if fw_ko o = 7 then .inl (g.2 0, fw_lo o, .inl (M.1 (B + o)))
  else if fw_ko o = 8 then .inl (g.2 1, 6, .inr (.inr (.inr (.inr (fun j => some (fw_el 8 (B + o) j))))))
  else if fw_ko o = 9 then .inl (g.2 2, 4, .inr (.inr (.inr (.inr (fun j => some (fw_el 9 (B + o) j))))))
  else if fw_ko o = 10 then .inl (g.2 3, 24, .inr (.inr (.inr (.inr (fun j => some (fw_el 10 (B + o) j))))))
  else .inl (g.2 4, 1, .inr (.inl (fun j => M.2.1 (1 + j))))
def fw_WL (g : fw_G) (B : Nat) (M : fw_M) : va_W := (List.range 499).map (fun o => (B + o, fw_ct g B M o))
theorem fw_ko_lt {o : Nat} (h : fw_ko o < 12) : o < 499 := by
  rcases Nat.lt_or_ge o 499 with q | q
  · exact q
  · exfalso
    unfold fw_ko at h
    rw [if_neg (by omega), if_neg (by omega), if_neg (by omega), if_neg (by omega), if_neg (by omega), if_neg (by omega), if_neg (by omega), if_neg (by omega), if_neg (by omega), if_neg (by omega)] at h
    omega
theorem fw_kd_at {B a k : Nat} (h : fw_kd B a = k) (hk : k < 12) : ∃ o, o < 499 ∧ a = B + o ∧ fw_ko o = k := by
  unfold fw_kd at h
  by_cases hB : a < B
  · rw [if_pos hB] at h
    omega
  · rw [if_neg hB] at h
    exact ⟨a - B, fw_ko_lt (by omega), by omega, h⟩
theorem fw_WL_get {g : fw_G} {B : Nat} {M : fw_M} {o : Nat} (h : o < 499) : (fw_WL g B M)[o]? = some (B + o, fw_ct g B M o) := by
  unfold fw_WL
  rw [List.getElem?_map, List.getElem?_range h]
  rfl
theorem fw_WL_get' {g : fw_G} {B : Nat} {M : fw_M} {k : Nat} {q : Nat × va_E} (h : (fw_WL g B M)[k]? = some q) : k < 499 ∧ q = (B + k, fw_ct g B M k) := by
  have hk : k < 499 := by
    have := (List.getElem?_eq_some_iff.mp h).1
    simpa [fw_WL] using this
  refine ⟨hk, ?_⟩
  rw [fw_WL_get hk] at h
  exact (Option.some.inj h).symm
theorem fw_WL_D {g : fw_G} {B : Nat} {M : fw_M} : va_D (fun q => B ≤ q) (fw_WL g B M) := by
  refine ⟨fun i j p q hi hj he => ?_, fun k q hk => ?_⟩
  · obtain ⟨-, rfl⟩ := fw_WL_get' hi
    obtain ⟨-, rfl⟩ := fw_WL_get' hj
    simp only at he
    omega
  · obtain ⟨-, rfl⟩ := fw_WL_get' hk
    exact Nat.le_add_right B k
theorem fw_WL_set {g : fw_G} {B : Nat} {M M' : fw_M} {o : Nat} {e : va_E} (h : o < 499) (he : fw_ct g B M' o = e) (hn : ∀ o', o' < 499 → o' ≠ o → fw_ct g B M' o' = fw_ct g B M o') : (fw_WL g B M).set o (B + o, e) = fw_WL g B M' := by
  subst he
  apply List.ext_getElem?
  intro k
  rw [List.getElem?_set]
  by_cases hk : o = k
  · subst hk
    rw [if_pos rfl, fw_WL_get h, if_pos (by simp [fw_WL, h])]
  · rw [if_neg hk]
    rcases Nat.lt_or_ge k 499 with q | q
    · rw [fw_WL_get q, fw_WL_get q, hn k q (fun z => hk z.symm)]
    · rw [List.getElem?_eq_none (by simp [fw_WL, q]), List.getElem?_eq_none (by simp [fw_WL, q])]
theorem fw_fv_st {M : fw_M} {a b k : Nat} {x : Int32} (h : b ≠ a) (ci j : Nat) : fw_fv ci j b (fw_st M a k x) = fw_fv ci j b M := by
  unfold fw_fv fw_fw
  cases fw_fc ci j with
  | zero => simp only [fw_st, fw_up_ne h]
  | succ n => cases n <;> rfl
theorem fw_ct_st {g : fw_G} {B : Nat} {M : fw_M} {o o' k : Nat} {x : Int32} (h : o' ≠ o) : fw_ct g B (fw_st M (B + o) k x) o' = fw_ct g B M o' := by
  have hb : B + o' ≠ B + o := by omega
  unfold fw_ct fw_fs
  simp only [fw_fv_st hb]
  rw [show (fw_st M (B + o) k x).1 (B + o') = M.1 (B + o') from fw_up_ne hb]
  rfl
theorem fw_fs_get {ci a k : Nat} {M : fw_M} (h : k < fw_nf ci) : (fw_fs ci a M)[k]? = some (fw_fv ci k a M) := by
  unfold fw_fs
  rw [List.getElem?_map, List.getElem?_range h]
  rfl
theorem fw_fs_len {ci a : Nat} {M : fw_M} : (fw_fs ci a M).length = fw_nf ci := by simp [fw_fs]
theorem fw_fs_set {ci a k : Nat} {M M' : fw_M} {v : Value} (h : k < fw_nf ci) (hv : fw_fv ci k a M' = v) (hn : ∀ j, j ≠ k → fw_fv ci j a M' = fw_fv ci j a M) : (fw_fs ci a M).set k v = fw_fs ci a M' := by
  subst hv
  apply List.ext_getElem?
  intro j
  rw [List.getElem?_set]
  by_cases hk : k = j
  · subst hk
    rw [if_pos rfl, fw_fs_get h, if_pos (by rw [fw_fs_len]; exact h)]
  · rw [if_neg hk]
    rcases Nat.lt_or_ge j (fw_nf ci) with q | q
    · rw [fw_fs_get q, fw_fs_get q, hn j (fun z => hk z.symm)]
    · rw [List.getElem?_eq_none (by rw [fw_fs_len]; exact q), List.getElem?_eq_none (by rw [fw_fs_len]; exact q)]
theorem fw_ct_obj {g : fw_G} {B o ci : Nat} {M : fw_M} (h : fw_ko o = ci) (hc : ci < 7) : fw_ct g B M o = .inr (ci, fw_fs ci (B + o) M) := by
  subst h
  unfold fw_ct
  rw [if_pos hc]
theorem fw_ct_7 {g : fw_G} {B o : Nat} {M : fw_M} (h : fw_ko o = 7) : fw_ct g B M o = .inl (g.2 0, fw_lo o, .inl (M.1 (B + o))) := by
  unfold fw_ct
  rw [if_neg (by omega), if_pos h]
theorem fw_ct_8 {g : fw_G} {B o : Nat} {M : fw_M} (h : fw_ko o = 8) : fw_ct g B M o = .inl (g.2 1, 6, .inr (.inr (.inr (.inr (fun j => some (fw_el 8 (B + o) j)))))) := by
  unfold fw_ct
  rw [if_neg (by omega), if_neg (by omega), if_pos h]
theorem fw_ct_9 {g : fw_G} {B o : Nat} {M : fw_M} (h : fw_ko o = 9) : fw_ct g B M o = .inl (g.2 2, 4, .inr (.inr (.inr (.inr (fun j => some (fw_el 9 (B + o) j)))))) := by
  unfold fw_ct
  rw [if_neg (by omega), if_neg (by omega), if_neg (by omega), if_pos h]
theorem fw_ct_10 {g : fw_G} {B o : Nat} {M : fw_M} (h : fw_ko o = 10) : fw_ct g B M o = .inl (g.2 3, 24, .inr (.inr (.inr (.inr (fun j => some (fw_el 10 (B + o) j)))))) := by
  unfold fw_ct
  rw [if_neg (by omega), if_neg (by omega), if_neg (by omega), if_neg (by omega), if_pos h]
theorem fw_ct_11 {g : fw_G} {B o : Nat} {M : fw_M} (h : fw_ko o = 11) : fw_ct g B M o = .inl (g.2 4, 1, .inr (.inl (fun j => M.2.1 (1 + j)))) := by
  unfold fw_ct
  rw [if_neg (by omega), if_neg (by omega), if_neg (by omega), if_neg (by omega), if_neg (by omega)]
theorem fw_fv_put {M : fw_M} {ci k a : Nat} {x : Int32} (h : fw_fc ci k = 0) : fw_fv ci k a (fw_st M a k x) = .int x := by
  unfold fw_fv
  rw [h]
  show Value.int (fw_up M.1 a k x a k) = _
  rw [fw_up_same]
  simp [upd]
theorem fw_fv_putn {M : fw_M} {ci k a j : Nat} {x : Int32} (h : j ≠ k) : fw_fv ci j a (fw_st M a k x) = fw_fv ci j a M := by
  unfold fw_fv fw_fw
  cases fw_fc ci j with
  | zero =>
    show Value.int (fw_up M.1 a k x a j) = _
    rw [fw_up_same]
    simp [upd, h]
  | succ n => cases n <;> rfl
/-- a field is written -/
theorem fw_put {g : fw_G} {B o ci k : Nat} {M : fw_M} {x : Int32} (ho : o < 499) (h : fw_ko o = ci) (hc : ci < 7) (hk : k < fw_nf ci) (hf : fw_fc ci k = 0) :
    (fw_WL g B M).set o (B + o, .inr (ci, (fw_fs ci (B + o) M).set k (.int x))) = fw_WL g B (fw_st M (B + o) k x) := by
  refine fw_WL_set ho ?_ (fun o' _ hn => fw_ct_st hn)
  rw [fw_ct_obj h hc, fw_fs_set hk (fw_fv_put hf) (fun j hj => fw_fv_putn hj)]
/-- a place of a row of ints is written -/
theorem fw_ast {g : fw_G} {B o k : Nat} {M : fw_M} {x : Int32} (ho : o < 499) (h : fw_ko o = 7) :
    (fw_WL g B M).set o (B + o, .inl (g.2 0, fw_lo o, .inl (upd (M.1 (B + o)) k x))) = fw_WL g B (fw_st M (B + o) k x) := by
  refine fw_WL_set ho ?_ (fun o' _ hn => fw_ct_st hn)
  rw [fw_ct_7 h, show (fw_st M (B + o) k x).1 (B + o) = upd (M.1 (B + o)) k x from fw_up_same]
end FW
end
section
/-! THE WALKER: what must hold before a stretch of code so that it ends as asked; a number a decoded instruction, no machine in it -/
section WK
abbrev fw_L : Type := List (Option Value)
/-- pc, length, instruction, its number, its target -/
abbrev fw_Ent : Type := Nat × Nat × Instr × Int32 × Nat
/-- what a callee does: from its arguments and the memory to what must hold behind it -/
abbrev fw_CT : Type := List Value → fw_M → (Option Value → fw_M → Prop) → Prop
/-- index; kind (0 virtual, 1 static), the receiver's kind, how many arguments, how many cells come, what it does -/
abbrev fw_Cal : Type := Nat × Nat × Nat × Nat × Nat × fw_CT
abbrev fw_K : Type := Nat → Option (List Bool × (fw_L → List Value → fw_M → Prop))
/-- a side condition, kept whole -/
def fw_sd (P : Prop) : Prop := P ∨ False
theorem fw_sd_e {P : Prop} (h : fw_sd P) : P := h.elim id False.elim
theorem fw_sd_i {P : Prop} (h : P) : fw_sd P := Or.inl h
def fw_lg : fw_L → Nat → Option Value
  | [], _ => none
  | o :: _, 0 => o
  | _ :: t, i + 1 => fw_lg t i
def fw_c2 : Option Value → Bool
  | some (.long _) => true
  | some (.double _) => true
  | _ => false
def fw_s1 : fw_L → Nat → Value → fw_L
  | [], _, _ => []
  | _ :: t, 0, v => some v :: t
  | o :: t, 1, v => (bif fw_c2 o then none else o) :: fw_s1 t 0 v
  | o :: t, i + 2, v => o :: fw_s1 t (i + 1) v
def fw_s2 : fw_L → Nat → Value → fw_L
  | [], _, _ => []
  | [_], 0, _ => []
  | _ :: _ :: t, 0, v => some v :: none :: t
  | o :: t, 1, v => (bif fw_c2 o then none else o) :: fw_s2 t 0 v
  | o :: t, i + 2, v => o :: fw_s2 t (i + 1) v
def fw_find {α : Type} (i : Nat) : List (Nat × α) → Option α
  | [] => none
  | q :: t => bif Nat.beq q.1 i then some q.2 else fw_find i t
def fw_findC (i : Nat) : List fw_Cal → Option (Nat × Nat × Nat × Nat × fw_CT)
  | [] => none
  | q :: t => bif Nat.beq q.1 i then some q.2 else fw_findC i t
def fw_seek (t : Nat) : List fw_Ent → List fw_Ent
  | [] => []
  | e :: r => bif Nat.beq e.1 t then e :: r else fw_seek t r
def fw_mk : List Bool → fw_L → fw_L
  | b :: bs, o :: ls => (bif b then o else none) :: fw_mk bs ls
  | _, _ => []
/-! shapes of the stack -/
def fw_i (st : List Value) (f : Int32 → List Value → Prop) : Prop := match st with
  | .int x :: r => f x r
  | _ => False
def fw_ii (st : List Value) (f : Int32 → Int32 → List Value → Prop) : Prop := match st with
  | .int y :: .int x :: r => f x y r
  | _ => False
def fw_r (st : List Value) (f : Nat → List Value → Prop) : Prop := match st with
  | .ref a :: r => f a r
  | _ => False
def fw_ri (st : List Value) (f : Nat → Int32 → List Value → Prop) : Prop := match st with
  | .int i :: .ref a :: r => f a i r
  | _ => False
def fw_rii (st : List Value) (f : Nat → Int32 → Int32 → List Value → Prop) : Prop := match st with
  | .int x :: .int i :: .ref a :: r => f a i x r
  | _ => False
def fw_ril (st : List Value) (f : Nat → Int32 → Int64 → List Value → Prop) : Prop := match st with
  | .long x :: .int i :: .ref a :: r => f a i x r
  | _ => False
def fw_l (st : List Value) (f : Int64 → List Value → Prop) : Prop := match st with
  | .long x :: r => f x r
  | _ => False
def fw_ll (st : List Value) (f : Int64 → Int64 → List Value → Prop) : Prop := match st with
  | .long y :: .long x :: r => f x y r
  | _ => False
def fw_d (st : List Value) (f : UInt64 → List Value → Prop) : Prop := match st with
  | .double x :: r => f x r
  | _ => False
def fw_dd (st : List Value) (f : UInt64 → UInt64 → List Value → Prop) : Prop := match st with
  | .double y :: .double x :: r => f x y r
  | _ => False
def fw_a (st : List Value) (f : Value → List Value → Prop) (n : List Value → Prop) : Prop := match st with
  | .ref a :: r => f (.ref a) r
  | .null :: r => n r
  | _ => False
/-- one word on top -/
def fw_w (st : List Value) (f : Value → List Value → Prop) : Prop := match st with
  | .int x :: r => f (.int x) r
  | .ref a :: r => f (.ref a) r
  | .null :: r => f .null r
  | _ => False
theorem fw_i_e {st : List Value} {f : Int32 → List Value → Prop} (h : fw_i st f) : ∃ x r, st = .int x :: r ∧ f x r := by
  unfold fw_i at h
  split at h
  · exact ⟨_, _, rfl, h⟩
  · exact h.elim
theorem fw_ii_e {st : List Value} {f : Int32 → Int32 → List Value → Prop} (h : fw_ii st f) : ∃ x y r, st = .int y :: .int x :: r ∧ f x y r := by
  unfold fw_ii at h
  split at h
  · exact ⟨_, _, _, rfl, h⟩
  · exact h.elim
theorem fw_r_e {st : List Value} {f : Nat → List Value → Prop} (h : fw_r st f) : ∃ x r, st = .ref x :: r ∧ f x r := by
  unfold fw_r at h
  split at h
  · exact ⟨_, _, rfl, h⟩
  · exact h.elim
theorem fw_ri_e {st : List Value} {f : Nat → Int32 → List Value → Prop} (h : fw_ri st f) : ∃ a i r, st = .int i :: .ref a :: r ∧ f a i r := by
  unfold fw_ri at h
  split at h
  · exact ⟨_, _, _, rfl, h⟩
  · exact h.elim
theorem fw_rii_e {st : List Value} {f : Nat → Int32 → Int32 → List Value → Prop} (h : fw_rii st f) : ∃ a i x r, st = .int x :: .int i :: .ref a :: r ∧ f a i x r := by
  unfold fw_rii at h
  split at h
  · exact ⟨_, _, _, _, rfl, h⟩
  · exact h.elim
theorem fw_ril_e {st : List Value} {f : Nat → Int32 → Int64 → List Value → Prop} (h : fw_ril st f) : ∃ a i x r, st = .long x :: .int i :: .ref a :: r ∧ f a i x r := by
  unfold fw_ril at h
  split at h
  · exact ⟨_, _, _, _, rfl, h⟩
  · exact h.elim
theorem fw_l_e {st : List Value} {f : Int64 → List Value → Prop} (h : fw_l st f) : ∃ x r, st = .long x :: r ∧ f x r := by
  unfold fw_l at h
  split at h
  · exact ⟨_, _, rfl, h⟩
  · exact h.elim
theorem fw_ll_e {st : List Value} {f : Int64 → Int64 → List Value → Prop} (h : fw_ll st f) : ∃ x y r, st = .long y :: .long x :: r ∧ f x y r := by
  unfold fw_ll at h
  split at h
  · exact ⟨_, _, _, rfl, h⟩
  · exact h.elim
theorem fw_d_e {st : List Value} {f : UInt64 → List Value → Prop} (h : fw_d st f) : ∃ x r, st = .double x :: r ∧ f x r := by
  unfold fw_d at h
  split at h
  · exact ⟨_, _, rfl, h⟩
  · exact h.elim
theorem fw_dd_e {st : List Value} {f : UInt64 → UInt64 → List Value → Prop} (h : fw_dd st f) : ∃ x y r, st = .double y :: .double x :: r ∧ f x y r := by
  unfold fw_dd at h
  split at h
  · exact ⟨_, _, _, rfl, h⟩
  · exact h.elim
theorem fw_a_e {st : List Value} {f : Value → List Value → Prop} {n : List Value → Prop} (h : fw_a st f n) : (∃ a r, st = .ref a :: r ∧ f (.ref a) r) ∨ ∃ r, st = .null :: r ∧ n r := by
  unfold fw_a at h
  split at h
  · exact Or.inl ⟨_, _, rfl, h⟩
  · exact Or.inr ⟨_, rfl, h⟩
  · exact h.elim
theorem fw_w_e {st : List Value} {f : Value → List Value → Prop} (h : fw_w st f) : ∃ v r, st = v :: r ∧ v.category = 1 ∧ f v r := by
  unfold fw_w at h
  split at h
  · exact ⟨_, _, rfl, rfl, h⟩
  · exact ⟨_, _, rfl, rfl, h⟩
  · exact ⟨_, _, rfl, rfl, h⟩
  · exact h.elim
def fw_li (o : Option Value) (f : Int32 → Prop) : Prop := match o with
  | some (.int x) => f x
  | _ => False
def fw_la (o : Option Value) (f : Value → Prop) : Prop := match o with
  | some (.ref a) => f (.ref a)
  | some .null => f .null
  | _ => False
def fw_lo64 (o : Option Value) (f : Int64 → Prop) : Prop := match o with
  | some (.long x) => f x
  | _ => False
def fw_ld64 (o : Option Value) (f : UInt64 → Prop) : Prop := match o with
  | some (.double x) => f x
  | _ => False
theorem fw_li_e {o : Option Value} {f : Int32 → Prop} (h : fw_li o f) : ∃ x, o = some (.int x) ∧ f x := by
  unfold fw_li at h
  split at h
  · exact ⟨_, rfl, h⟩
  · exact h.elim
theorem fw_la_e {o : Option Value} {f : Value → Prop} (h : fw_la o f) : (∃ a, o = some (.ref a) ∧ f (.ref a)) ∨ (o = some .null ∧ f .null) := by
  unfold fw_la at h
  split at h
  · exact Or.inl ⟨_, rfl, h⟩
  · exact Or.inr ⟨rfl, h⟩
  · exact h.elim
theorem fw_lo64_e {o : Option Value} {f : Int64 → Prop} (h : fw_lo64 o f) : ∃ x, o = some (.long x) ∧ f x := by
  unfold fw_lo64 at h
  split at h
  · exact ⟨_, rfl, h⟩
  · exact h.elim
theorem fw_ld64_e {o : Option Value} {f : UInt64 → Prop} (h : fw_ld64 o f) : ∃ x, o = some (.double x) ∧ f x := by
  unfold fw_ld64 at h
  split at h
  · exact ⟨_, rfl, h⟩
  · exact h.elim
/-- a call: enough on the stack, not too much left, a receiver of the right kind -/
def fw_rcv (B kind ci : Nat) (as : List Value) (P : Prop) : Prop := match kind, as with
  | 0, .ref b :: _ => fw_kd B b = ci ∧ P
  | 1, _ => P
  | _, _ => False
/-- the memory behind a call: where cells come (in the law alone) they are counted -/
def fw_inc : Nat → fw_M → fw_M → fw_M
  | 0, _, M' => M'
  | n + 1, M, M' => (M'.1, M'.2.1, M.2.2 + (n + 1))
def fw_cti (inc : Nat) (ct : fw_CT) (as : List Value) (M : fw_M) (k : Option Value → fw_M → Prop) : Prop := match inc with
  | 0 => ct as M k
  | n + 1 => ct as M (fun r M' => k r (M'.1, M'.2.1, M.2.2 + (n + 1)))
theorem fw_cti_e {inc : Nat} {ct : fw_CT} {as : List Value} {M : fw_M} {k : Option Value → fw_M → Prop} (h : fw_cti inc ct as M k) : ct as M (fun r M' => k r (fw_inc inc M M')) := by
  cases inc <;> exact h
def fw_call (B kind : Nat) (en : Option (Nat × Nat × Nat × Nat × fw_CT)) (st : List Value) (M : fw_M) (k : List Value → fw_M → Prop) : Prop := match en with
  | some (kd, ci, n, inc, ct) => bif Nat.beq kd kind && Nat.ble n st.length && Nat.ble (((st.drop n).map fun v => v.category).sum) 8 then fw_rcv B kind ci (st.take n).reverse (fw_cti inc ct (st.take n).reverse M (fun r M' => k (r.toList ++ st.drop n) M')) else False
  | none => False
/-- a switch's rows -/
def fw_tsw (x : Int32) (pc : Nat) (jp : Nat → Prop) : List Int → Int → Prop
  | [], _ => True
  | o :: os, v => (x.toInt = v → jp ((pc : Int) + o).toNat) ∧ fw_tsw x pc jp os (v + 1)
def fw_lsw (x : Int32) (jp : Int → Prop) (d : Int) : List (Int × Int) → Prop
  | [] => jp d
  | q :: qs => (x.toInt = q.1 → jp q.2) ∧ (¬ x.toInt = q.1 → fw_lsw x jp d qs)
section STP
variable (B : Nat) (fld : List (Nat × Nat × Nat)) (cal : List fw_Cal) (thr : List (Nat × String)) (cst : List (Nat × Value)) (scr : Option (Nat × Nat × (Nat → Int32))) (rt : Option FieldType) (Q : Option Value → fw_M → Prop) (QX : String → fw_M → Prop)
def fw_get (B : Nat) (q : Option (Nat × Nat)) (a : Nat) (M : fw_M) (k : Value → Prop) : Prop := match q with
  | some (ci, j) => fw_kd B a = ci ∧ k (fw_fv ci j a M)
  | none => False
def fw_putv (B : Nat) (q : Option (Nat × Nat)) (st : List Value) (M : fw_M) (k : List Value → fw_M → Prop) : Prop := match q, st with
  | some (ci, j), .int x :: .ref a :: r => bif Nat.beq (fw_fc ci j) 0 then fw_kd B a = ci ∧ k r (fw_st M a j x) else False
  | some (ci, j), .long x :: .ref a :: r => bif Nat.beq (fw_fc ci j) 1 then fw_kd B a = ci ∧ k r (fw_stl M 0 x) else False
  | _, _ => False
def fw_iald (B : Nat) (scr : Option (Nat × Nat × (Nat → Int32))) (a : Nat) (i : Int32) (M : fw_M) (k : Int32 → Prop) : Prop := match scr with
  | none => fw_kd B a = 7 ∧ fw_sd (vp_in i (fw_len B a)) ∧ k (M.1 a i.toNatClampNeg)
  | some (b, L, xs) => a = b ∧ fw_sd (vp_in i L) ∧ k (xs i.toNatClampNeg)
def fw_aln (B a : Nat) : Nat := if fw_kd B a = 7 then fw_len B a else fw_al (fw_kd B a)
def fw_alen (B : Nat) (scr : Option (Nat × Nat × (Nat → Int32))) (a : Nat) (k : Int32 → Prop) : Prop := match scr with
  | none => 7 ≤ fw_kd B a ∧ fw_kd B a ≤ 10 ∧ k (Int32.ofNat (fw_aln B a))
  | some (b, L, _) => a = b ∧ k (Int32.ofNat L)
def fw_endi (rt : Option FieldType) (Q : Option Value → fw_M → Prop) (st : List Value) (M : fw_M) : Prop := match rt, st with
  | some .int, [.int x] => Q (some (.int x)) M
  | some .boolean, [.int x] => (x = 0 ∨ x = 1) ∧ Q (some (.int x)) M
  | _, _ => False
def fw_enda (rt : Option FieldType) (Q : Option Value → fw_M → Prop) (st : List Value) (M : fw_M) : Prop := match rt, st with
  | some (.object _), [.ref a] => Q (some (.ref a)) M
  | some (.object _), [.null] => Q (some .null) M
  | _, _ => False
def fw_endl (rt : Option FieldType) (Q : Option Value → fw_M → Prop) (st : List Value) (M : fw_M) : Prop := match rt, st with
  | some .long, [.long x] => Q (some (.long x)) M
  | _, _ => False
def fw_endd (rt : Option FieldType) (Q : Option Value → fw_M → Prop) (st : List Value) (M : fw_M) : Prop := match rt, st with
  | some .double, [.double x] => Q (some (.double x)) M
  | _, _ => False
def fw_endv (rt : Option FieldType) (Q : Option Value → fw_M → Prop) (st : List Value) (M : fw_M) : Prop := match rt, st with
  | none, [] => Q none M
  | _, _ => False
def fw_newx (QX : String → fw_M → Prop) (q : Option String) (st : List Value) (M : fw_M) : Prop := match q, st with
  | some E, [] => QX E M
  | _, _ => False
def fw_stp (e : fw_Ent) (ls : fw_L) (st : List Value) (M : fw_M) (nx : fw_L → List Value → fw_M → Prop) (jp : Nat → fw_L → List Value → fw_M → Prop) : Prop := match e.2.2.1 with
  | .aconst_null => nx ls (.null :: st) M
  | .iconst _ => nx ls (.int e.2.2.2.1 :: st) M
  | .bipush _ => nx ls (.int e.2.2.2.1 :: st) M
  | .sipush _ => nx ls (.int e.2.2.2.1 :: st) M
  | .ldc _ => nx ls (.int e.2.2.2.1 :: st) M
  | .ldc_w _ => nx ls (.int e.2.2.2.1 :: st) M
  | .ldc2_w i => (match fw_find i cst with | some (.long v) => nx ls (.long v :: st) M | _ => False)
  | .dconst _ => nx ls (.double FP.dconst1 :: st) M
  | .iload_n k => fw_li (fw_lg ls k.val) fun x => nx ls (.int x :: st) M
  | .iload k => fw_li (fw_lg ls k) fun x => nx ls (.int x :: st) M
  | .aload_n k => fw_la (fw_lg ls k.val) fun x => nx ls (x :: st) M
  | .aload k => fw_la (fw_lg ls k) fun x => nx ls (x :: st) M
  | .lload_n k => fw_lo64 (fw_lg ls k.val) fun x => nx ls (.long x :: st) M
  | .lload k => fw_lo64 (fw_lg ls k) fun x => nx ls (.long x :: st) M
  | .dload_n k => fw_ld64 (fw_lg ls k.val) fun x => nx ls (.double x :: st) M
  | .dload k => fw_ld64 (fw_lg ls k) fun x => nx ls (.double x :: st) M
  | .istore_n k => fw_i st fun x r => nx (fw_s1 ls k.val (.int x)) r M
  | .istore k => fw_i st fun x r => nx (fw_s1 ls k (.int x)) r M
  | .astore_n k => fw_a st (fun x r => nx (fw_s1 ls k.val x) r M) (fun r => nx (fw_s1 ls k.val .null) r M)
  | .astore k => fw_a st (fun x r => nx (fw_s1 ls k x) r M) (fun r => nx (fw_s1 ls k .null) r M)
  | .lstore_n k => fw_l st fun x r => nx (fw_s2 ls k.val (.long x)) r M
  | .lstore k => fw_l st fun x r => nx (fw_s2 ls k (.long x)) r M
  | .dstore_n k => fw_d st fun x r => nx (fw_s2 ls k.val (.double x)) r M
  | .dstore k => fw_d st fun x r => nx (fw_s2 ls k (.double x)) r M
  | .iinc k _ => fw_li (fw_lg ls k) fun x => nx (fw_s1 ls k (.int (x + e.2.2.2.1))) st M
  | .iadd => fw_ii st fun x y r => nx ls (.int (x + y) :: r) M
  | .isub => fw_ii st fun x y r => nx ls (.int (x - y) :: r) M
  | .imul => fw_ii st fun x y r => nx ls (.int (x * y) :: r) M
  | .iand => fw_ii st fun x y r => nx ls (.int (x &&& y) :: r) M
  | .ior => fw_ii st fun x y r => nx ls (.int (x ||| y) :: r) M
  | .ishl => fw_ii st fun x y r => nx ls (.int (x <<< (y &&& 31)) :: r) M
  | .ishr => fw_ii st fun x y r => nx ls (.int (x >>> (y &&& 31)) :: r) M
  | .idiv => fw_ii st fun x y r => fw_sd (¬ y = 0) ∧ nx ls (.int (x / y) :: r) M
  | .irem => fw_ii st fun x y r => fw_sd (¬ y = 0) ∧ nx ls (.int (x - x / y * y) :: r) M
  | .ineg => fw_i st fun x r => nx ls (.int (-x) :: r) M
  | .i2l => fw_i st fun x r => nx ls (.long x.toInt64 :: r) M
  | .i2d => fw_i st fun x r => nx ls (.double (FP.i2d x) :: r) M
  | .ladd => fw_ll st fun x y r => nx ls (.long (x + y) :: r) M
  | .lmul => fw_ll st fun x y r => nx ls (.long (x * y) :: r) M
  | .lcmp => fw_ll st fun x y r => nx ls (.int (lg_cmp x y) :: r) M
  | .ddiv => fw_dd st fun x y r => vf_n64 (FP.ddiv x y) ∧ nx ls (.double (FP.ddiv x y) :: r) M
  | .dcmp op => fw_dd st fun x y r => nx ls (.int (Op.cmpValue (FP.dcmp x y) op) :: r) M
  | .dup => fw_w st fun v r => nx ls (v :: v :: r) M
  | .pop => fw_w st fun _ r => nx ls r M
  | .dup2 => fw_w st fun v r => fw_w r fun u r => nx ls (v :: u :: v :: u :: r) M
  | .if_icmp .eq _ => fw_ii st fun x y r => (x = y → jp e.2.2.2.2 ls r M) ∧ (¬ x = y → nx ls r M)
  | .if_icmp .ne _ => fw_ii st fun x y r => (¬ x = y → jp e.2.2.2.2 ls r M) ∧ (x = y → nx ls r M)
  | .if_icmp .lt _ => fw_ii st fun x y r => (x < y → jp e.2.2.2.2 ls r M) ∧ (¬ x < y → nx ls r M)
  | .if_icmp .ge _ => fw_ii st fun x y r => (y ≤ x → jp e.2.2.2.2 ls r M) ∧ (¬ y ≤ x → nx ls r M)
  | .if_icmp .gt _ => fw_ii st fun x y r => (y < x → jp e.2.2.2.2 ls r M) ∧ (¬ y < x → nx ls r M)
  | .if_icmp .le _ => fw_ii st fun x y r => (x ≤ y → jp e.2.2.2.2 ls r M) ∧ (¬ x ≤ y → nx ls r M)
  | .ifCond .eq _ => fw_i st fun x r => (x = 0 → jp e.2.2.2.2 ls r M) ∧ (¬ x = 0 → nx ls r M)
  | .ifCond .ne _ => fw_i st fun x r => (¬ x = 0 → jp e.2.2.2.2 ls r M) ∧ (x = 0 → nx ls r M)
  | .ifCond .lt _ => fw_i st fun x r => (x < 0 → jp e.2.2.2.2 ls r M) ∧ (¬ x < 0 → nx ls r M)
  | .ifCond .ge _ => fw_i st fun x r => (0 ≤ x → jp e.2.2.2.2 ls r M) ∧ (¬ 0 ≤ x → nx ls r M)
  | .ifCond .gt _ => fw_i st fun x r => (0 < x → jp e.2.2.2.2 ls r M) ∧ (¬ 0 < x → nx ls r M)
  | .ifCond .le _ => fw_i st fun x r => (x ≤ 0 → jp e.2.2.2.2 ls r M) ∧ (¬ x ≤ 0 → nx ls r M)
  | .ifnull _ => fw_a st (fun _ r => nx ls r M) (fun r => jp e.2.2.2.2 ls r M)
  | .ifnonnull _ => fw_a st (fun _ r => jp e.2.2.2.2 ls r M) (fun r => nx ls r M)
  | .goto _ => jp e.2.2.2.2 ls st M
  | .tableswitch d lo hi offs => fw_i st fun x r => fw_tsw x e.1 (fun t => jp t ls r M) offs.toList lo ∧ (x.toInt < lo ∨ hi < x.toInt → jp ((e.1 : Int) + d).toNat ls r M)
  | .lookupswitch d ps => fw_i st fun x r => fw_lsw x (fun o => jp ((e.1 : Int) + o).toNat ls r M) d ps.toList
  | .getfield i => fw_r st fun a r => fw_get B (fw_find i fld) a M fun v => nx ls (v :: r) M
  | .putfield i => fw_putv B (fw_find i fld) st M fun r M' => nx ls r M'
  | .iaload => fw_ri st fun a i r => fw_iald B scr a i M fun x => nx ls (.int x :: r) M
  | .iastore => fw_rii st fun a i x r => fw_kd B a = 7 ∧ fw_sd (vp_in i (fw_len B a)) ∧ nx ls r (fw_st M a i.toNatClampNeg x)
  | .laload => fw_ri st fun a i r => fw_kd B a = 11 ∧ i = 0 ∧ nx ls (.long (M.2.1 1) :: r) M
  | .lastore => fw_ril st fun a i x r => fw_kd B a = 11 ∧ i = 0 ∧ nx ls r (fw_stl M 1 x)
  | .aaload => fw_ri st fun a i r => 8 ≤ fw_kd B a ∧ fw_kd B a ≤ 10 ∧ fw_sd (vp_in i (fw_al (fw_kd B a))) ∧ nx ls (.ref (fw_el (fw_kd B a) a i.toNatClampNeg) :: r) M
  | .arraylength => fw_r st fun a r => fw_alen B scr a fun x => nx ls (.int x :: r) M
  | .invokevirtual i => fw_call B 0 (fw_findC i cal) st M fun r M' => nx ls r M'
  | .invokestatic i => fw_call B 1 (fw_findC i cal) st M fun r M' => nx ls r M'
  | .new i => fw_newx QX (fw_find i thr) st M
  | .ireturn => fw_endi rt Q st M
  | .areturn => fw_enda rt Q st M
  | .lreturn => fw_endl rt Q st M
  | .dreturn => fw_endd rt Q st M
  | .return_ => fw_endv rt Q st M
  | _ => False
variable (code : List fw_Ent) (K : fw_K)
def fw_wp : Nat → Bool → List fw_Ent → fw_L → List Value → fw_M → Prop
  | 0, _, _, _, _, _ => False
  | _ + 1, _, [], _, _, _ => False
  | n + 1, b, e :: tl, ls, st, M => match b, K e.1 with
    | false, some q => q.2 (fw_mk q.1 ls) st M
    | _, _ => fw_stp B fld cal thr cst scr rt Q QX e ls st M (fun ls st M => fw_wp n false tl ls st M) (fun t ls st M => fw_wp n false (fw_seek t code) ls st M)
end STP
end WK
end
section
/-! THE WALKER IS SOUND: what it asks is enough over the machine -/
section SD
/-- a decoded row is as it says: lengths, numbers, targets, places of locals -/
def fw_lt (nL : Nat) (en : fw_Ent) : Bool := match en.2.2.1 with
  | .iconst n => Nat.beq en.2.1 1 && decide (Int32.ofInt n = en.2.2.2.1)
  | .bipush n => Nat.beq en.2.1 2 && decide ((Int8.ofInt n).toInt32 = en.2.2.2.1)
  | .sipush n => Nat.beq en.2.1 3 && decide ((Int16.ofInt n).toInt32 = en.2.2.2.1)
  | .ldc _ => Nat.beq en.2.1 2
  | .ldc_w _ => Nat.beq en.2.1 3
  | .ldc2_w _ => Nat.beq en.2.1 3
  | .dconst d => Nat.beq en.2.1 1 && decide (d = 1)
  | .iload _ => Nat.beq en.2.1 2
  | .aload _ => Nat.beq en.2.1 2
  | .lload _ => Nat.beq en.2.1 2
  | .dload _ => Nat.beq en.2.1 2
  | .istore_n k => Nat.beq en.2.1 1 && Nat.ble (k.val + 1) nL
  | .astore_n k => Nat.beq en.2.1 1 && Nat.ble (k.val + 1) nL
  | .istore k => Nat.beq en.2.1 2 && Nat.ble (k + 1) nL
  | .astore k => Nat.beq en.2.1 2 && Nat.ble (k + 1) nL
  | .lstore_n k => Nat.beq en.2.1 1 && Nat.ble (k.val + 2) nL
  | .dstore_n k => Nat.beq en.2.1 1 && Nat.ble (k.val + 2) nL
  | .lstore k => Nat.beq en.2.1 2 && Nat.ble (k + 2) nL
  | .dstore k => Nat.beq en.2.1 2 && Nat.ble (k + 2) nL
  | .iinc k n => Nat.beq en.2.1 3 && Nat.ble (k + 1) nL && decide (Int32.ofInt n = en.2.2.2.1)
  | .if_icmp _ off => Nat.beq en.2.1 3 && decide ((en.1 : Int) + off = (en.2.2.2.2 : Int))
  | .ifCond _ off => Nat.beq en.2.1 3 && decide ((en.1 : Int) + off = (en.2.2.2.2 : Int))
  | .ifnull off => Nat.beq en.2.1 3 && decide ((en.1 : Int) + off = (en.2.2.2.2 : Int))
  | .ifnonnull off => Nat.beq en.2.1 3 && decide ((en.1 : Int) + off = (en.2.2.2.2 : Int))
  | .goto off => Nat.beq en.2.1 3 && decide ((en.1 : Int) + off = (en.2.2.2.2 : Int))
  | .tableswitch d lo hi offs => decide ((offs.toList.length : Int) = hi - lo + 1) && decide (0 ≤ (en.1 : Int) + d) && offs.toList.all (fun o => decide (0 ≤ (en.1 : Int) + o))
  | .lookupswitch d ps => decide (0 ≤ (en.1 : Int) + d) && ps.toList.all (fun q => decide (0 ≤ (en.1 : Int) + q.2)) && (ps.toList.zip (ps.toList.drop 1)).all (fun q => decide (q.1.1 < q.2.1))
  | .getfield _ => Nat.beq en.2.1 3
  | .putfield _ => Nat.beq en.2.1 3
  | .invokevirtual _ => Nat.beq en.2.1 3
  | .invokestatic _ => Nat.beq en.2.1 3
  | .new _ => Nat.beq en.2.1 3
  | .invokespecial _ => Nat.beq en.2.1 3
  | _ => Nat.beq en.2.1 1
/-! locals as a list, over the machine's slots -/
def fw_as : Nat → fw_L → List (Nat × Value)
  | _, [] => []
  | k, none :: t => fw_as (k + 1) t
  | k, some v :: t => (k, v) :: fw_as (k + 1) t
def fw_lr (ls : fw_L) (la : Array Slot) (nL : Nat) : Prop := la.size = nL ∧ lv_wf la ∧ ∀ i v, fw_lg ls i = some v → la[i]? = some (.val v)
theorem fw_as_mem {ls : fw_L} {i : Nat} {v : Value} : ∀ {k : Nat}, fw_lg ls i = some v → (k + i, v) ∈ fw_as k ls := by
  induction ls generalizing i with
  | nil => intro k h; cases h
  | cons o t ih =>
    intro k h
    cases i with
    | zero =>
      have h : o = some v := h
      subst h
      exact List.mem_cons_self
    | succ i =>
      have h : fw_lg t i = some v := h
      have h2 := ih (k := k + 1) h
      rw [show k + 1 + i = k + (i + 1) by omega] at h2
      cases o with
      | none => exact h2
      | some w => exact List.mem_cons_of_mem _ h2
theorem fw_as_lg {ls : fw_L} {q : Nat × Value} : ∀ {k : Nat}, q ∈ fw_as k ls → ∃ i, q.1 = k + i ∧ fw_lg ls i = some q.2 := by
  induction ls with
  | nil => intro k h; cases h
  | cons o t ih =>
    intro k h
    cases o with
    | none =>
      obtain ⟨i, h1, h2⟩ := ih (k := k + 1) h
      exact ⟨i + 1, by omega, h2⟩
    | some w =>
      rcases List.mem_cons.mp h with h | h
      · subst h
        exact ⟨0, rfl, rfl⟩
      · obtain ⟨i, h1, h2⟩ := ih (k := k + 1) h
        exact ⟨i + 1, by omega, h2⟩
theorem fw_lr_has {ls : fw_L} {la : Array Slot} {nL : Nat} (h : fw_lr ls la nL) : lv_has la nL (fw_as 0 ls) := ⟨h.1, h.2.1, fun q hq => by
  obtain ⟨i, h1, h2⟩ := fw_as_lg hq
  rw [h1, Nat.zero_add]
  exact h.2.2 i _ h2⟩
theorem fw_lg_s1 {ls : fw_L} {v w : Value} : ∀ {i j : Nat}, fw_lg (fw_s1 ls i v) j = some w → (j = i ∧ w = v) ∨ (j ≠ i ∧ fw_lg ls j = some w ∧ ¬ (j + 1 = i ∧ w.category = 2)) := by
  induction ls with
  | nil => intro i j h; cases h
  | cons o t ih =>
    intro i j h
    match i, j, h with
    | 0, 0, h =>
      have h : some v = some w := h
      exact Or.inl ⟨rfl, (Option.some.inj h).symm⟩
    | 0, j + 1, h =>
      have h : fw_lg t j = some w := h
      exact Or.inr ⟨by omega, h, by omega⟩
    | 1, 0, h =>
      have h : (bif fw_c2 o then none else o) = some w := h
      cases hc : fw_c2 o with
      | true => rw [hc] at h; cases h
      | false =>
        rw [hc] at h
        have h : o = some w := h
        subst h
        refine Or.inr ⟨by omega, rfl, fun q => ?_⟩
        cases w <;> simp_all [fw_c2, Value.category]
    | 1, j + 1, h =>
      have h : fw_lg (fw_s1 t 0 v) j = some w := h
      rcases ih h with ⟨h1, h2⟩ | ⟨h1, h2, h3⟩
      · exact Or.inl ⟨by omega, h2⟩
      · exact Or.inr ⟨by omega, h2, by omega⟩
    | i + 2, 0, h =>
      have h : o = some w := h
      exact Or.inr ⟨by omega, h, by omega⟩
    | i + 2, j + 1, h =>
      have h : fw_lg (fw_s1 t (i + 1) v) j = some w := h
      rcases ih h with ⟨h1, h2⟩ | ⟨h1, h2, h3⟩
      · exact Or.inl ⟨by omega, h2⟩
      · exact Or.inr ⟨by omega, h2, by omega⟩
theorem fw_lg_s2 {v w : Value} : ∀ {ls : fw_L} {i j : Nat}, fw_lg (fw_s2 ls i v) j = some w → (j = i ∧ w = v) ∨ (j ≠ i ∧ j ≠ i + 1 ∧ fw_lg ls j = some w ∧ ¬ (j + 1 = i ∧ w.category = 2)) := by
  intro ls
  induction ls with
  | nil => intro i j h; cases h
  | cons o t ih =>
    intro i j h
    match i, j, h with
    | 0, j, h =>
      rcases t with _ | ⟨u, t⟩
      · cases h
      · match j, h with
        | 0, h =>
          have h : some v = some w := h
          exact Or.inl ⟨rfl, (Option.some.inj h).symm⟩
        | 1, h => cases h
        | j + 2, h =>
          have h : fw_lg t j = some w := h
          exact Or.inr ⟨by omega, by omega, h, by omega⟩
    | 1, 0, h =>
      have h : (bif fw_c2 o then none else o) = some w := by cases t <;> exact h
      cases hc : fw_c2 o with
      | true => rw [hc] at h; cases h
      | false =>
        rw [hc] at h
        have h : o = some w := h
        subst h
        refine Or.inr ⟨by omega, by omega, rfl, fun q => ?_⟩
        cases w <;> simp_all [fw_c2, Value.category]
    | 1, j + 1, h =>
      have h : fw_lg (fw_s2 t 0 v) j = some w := by cases t <;> exact h
      rcases ih h with ⟨h1, h2⟩ | ⟨h1, h1', h2, h3⟩
      · exact Or.inl ⟨by omega, h2⟩
      · exact Or.inr ⟨by omega, by omega, h2, by omega⟩
    | i + 2, 0, h =>
      have h : o = some w := by cases t <;> exact h
      exact Or.inr ⟨by omega, by omega, h, by omega⟩
    | i + 2, j + 1, h =>
      have h : fw_lg (fw_s2 t (i + 1) v) j = some w := by cases t <;> exact h
      rcases ih h with ⟨h1, h2⟩ | ⟨h1, h1', h2, h3⟩
      · exact Or.inl ⟨by omega, h2⟩
      · exact Or.inr ⟨by omega, by omega, h2, by omega⟩
theorem fw_lr_s1 {ls : fw_L} {la : Array Slot} {nL i : Nat} {v : Value} (h : lv_has la nL ((i, v) :: (fw_as 0 ls).filter (fun q => !(q.1 == i) && !(q.1 + 1 == i && q.2.category == 2)))) : fw_lr (fw_s1 ls i v) la nL := by
  refine ⟨h.1, h.2.1, fun j w hj => ?_⟩
  rcases fw_lg_s1 hj with ⟨rfl, rfl⟩ | ⟨h1, h2, h3⟩
  · exact h.2.2 (j, w) List.mem_cons_self
  · refine h.2.2 (j, w) (List.mem_cons_of_mem _ (List.mem_filter.mpr ⟨by have := fw_as_mem (k := 0) h2; rwa [Nat.zero_add] at this, ?_⟩))
    simp only [Bool.and_eq_true, Bool.not_eq_true', beq_eq_false_iff_ne, Bool.and_eq_false_iff]
    refine ⟨h1, ?_⟩
    by_cases q : j + 1 = i
    · exact Or.inr (fun z => h3 ⟨q, z⟩)
    · exact Or.inl q
theorem fw_lr_s2 {ls : fw_L} {la : Array Slot} {nL i : Nat} {v : Value} (h : lv_has la nL ((i, v) :: (fw_as 0 ls).filter (fun q => !(q.1 == i) && (!(q.1 == i + 1) && !(q.1 + 1 == i && q.2.category == 2))))) : fw_lr (fw_s2 ls i v) la nL := by
  refine ⟨h.1, h.2.1, fun j w hj => ?_⟩
  rcases fw_lg_s2 hj with ⟨rfl, rfl⟩ | ⟨h1, h1', h2, h3⟩
  · exact h.2.2 (j, w) List.mem_cons_self
  · refine h.2.2 (j, w) (List.mem_cons_of_mem _ (List.mem_filter.mpr ⟨by have := fw_as_mem (k := 0) h2; rwa [Nat.zero_add] at this, ?_⟩))
    simp only [Bool.and_eq_true, Bool.not_eq_true', beq_eq_false_iff_ne, Bool.and_eq_false_iff]
    refine ⟨h1, h1', ?_⟩
    by_cases q : j + 1 = i
    · exact Or.inr (fun z => h3 ⟨q, z⟩)
    · exact Or.inl q
theorem fw_lr_mk {ls : fw_L} {la : Array Slot} {nL : Nat} (h : fw_lr ls la nL) (bs : List Bool) : fw_lr (fw_mk bs ls) la nL := by
  have k : ∀ (bs : List Bool) (ls : fw_L) (i : Nat) (v : Value), fw_lg (fw_mk bs ls) i = some v → fw_lg ls i = some v := by
    intro bs
    induction bs with
    | nil => intro ls i v h; cases h
    | cons b bs ih =>
      intro ls i v h
      cases ls with
      | nil => cases h
      | cons o ls =>
        cases i with
        | zero =>
          have h : (bif b then o else none) = some v := h
          cases b with
          | true => exact h
          | false => cases h
        | succ i => exact ih ls i v h
  exact ⟨h.1, h.2.1, fun i v hi => h.2.2 i v (k bs ls i v hi)⟩
/-! lookups -/
theorem fw_find_mem {α : Type} {i : Nat} {L : List (Nat × α)} {x : α} (h : fw_find i L = some x) : (i, x) ∈ L := by
  induction L with
  | nil => cases h
  | cons q t ih =>
    unfold fw_find at h
    cases hb : Nat.beq q.1 i with
    | true =>
      rw [hb] at h
      have h : some q.2 = some x := h
      have e := Nat.eq_of_beq_eq_true hb
      rw [← Option.some.inj h, ← e]
      exact List.mem_cons_self
    | false =>
      rw [hb] at h
      exact List.mem_cons_of_mem _ (ih h)
theorem fw_findC_mem {i : Nat} {L : List fw_Cal} {x : Nat × Nat × Nat × Nat × fw_CT} (h : fw_findC i L = some x) : (i, x) ∈ L := by
  induction L with
  | nil => cases h
  | cons q t ih =>
    unfold fw_findC at h
    cases hb : Nat.beq q.1 i with
    | true =>
      rw [hb] at h
      have h : some q.2 = some x := h
      have e := Nat.eq_of_beq_eq_true hb
      rw [← Option.some.inj h, ← e]
      exact List.mem_cons_self
    | false =>
      rw [hb] at h
      exact List.mem_cons_of_mem _ (ih h)
/-! the tables of fields -/
theorem fw_cl_get : ∀ ci, ci < 7 → vwCl[ci]? = some (fw_cl ci) := by
  intro ci h
  match ci, h with
  | 0, _ => rfl
  | 1, _ => rfl
  | 2, _ => rfl
  | 3, _ => rfl
  | 4, _ => rfl
  | 5, _ => rfl
  | 6, _ => rfl
  | n + 7, h => omega
theorem fw_cl_n : ∀ ci, ci < 7 → (fw_cl ci).2.2 = fw_nf ci := by
  intro ci h
  match ci, h with
  | 0, _ => rfl
  | 1, _ => rfl
  | 2, _ => rfl
  | 3, _ => rfl
  | 4, _ => rfl
  | 5, _ => rfl
  | 6, _ => rfl
  | n + 7, h => omega
theorem fw_cl_w : ∀ ci, ci < 7 → ∀ w ∈ u_ws (fw_cl ci).1 (fw_cl ci).2.1 (fw_cl ci).2.2, w ∈ fw_LW := by
  intro ci h
  match ci, h with
  | 0, _ => exact wu_0
  | 1, _ => exact wu_1
  | 2, _ => exact wu_2
  | 3, _ => exact wu_3
  | 4, _ => exact wu_4
  | 5, _ => exact wu_5
  | 6, _ => exact wu_6
  | n + 7, h => omega
def fw_ty : Nat → Nat → FieldType
  | 0 => tyX0
  | 1 => tyX1
  | 2 => tyX2
  | 3 => tyX3
  | 4 => tyX4
  | 5 => tyX5
  | _ => tyX6
theorem fw_ty_ok : ∀ ci, ci < 7 → ∀ k, k < (fw_cl ci).2.2 → parseFieldDescriptor ((fw_cl ci).2.1 k).2.2.1 = some (fw_ty ci k) := by
  intro ci h
  match ci, h with
  | 0, _ => exact tyX0_ok
  | 1, _ => exact tyX1_ok
  | 2, _ => exact tyX2_ok
  | 3, _ => exact tyX3_ok
  | 4, _ => exact tyX4_ok
  | 5, _ => exact tyX5_ok
  | 6, _ => exact tyX6_ok
  | n + 7, h => omega
theorem fw_nm_ok : ∀ ci, ci < 7 → ∀ a, a < (fw_cl ci).2.2 → ∀ b, b < (fw_cl ci).2.2 → a ≠ b → ((fw_cl ci).2.1 a).2.1 ≠ ((fw_cl ci).2.1 b).2.1 := by
  intro ci h
  match ci, h with
  | 0, _ => exact nmX0
  | 1, _ => exact nmX1
  | 2, _ => exact nmX2
  | 3, _ => exact nmX3
  | 4, _ => exact nmX4
  | 5, _ => exact nmX5
  | 6, _ => exact nmX6
  | n + 7, h => omega
theorem fw_c0 : ∀ ci, ci < 7 → ∀ k, k < fw_nf ci → fw_fc ci k = 0 → ((fw_cl ci).2.1 k).2.2.2 = false ∧ parseFieldDescriptor ((fw_cl ci).2.1 k).2.2.1 = some .int := by decide +kernel
theorem fw_c1 : ∀ ci, ci < 7 → ∀ k, k < fw_nf ci → fw_fc ci k = 1 → ci = 6 ∧ k = 10 ∧ ((fw_cl ci).2.1 k).2.2.2 = false ∧ parseFieldDescriptor ((fw_cl ci).2.1 k).2.2.1 = some .long := by decide +kernel
def fw_Fld (own : String) (fld : List (Nat × Nat × Nat)) : Prop := ∀ q ∈ fld, q.2.1 < 7 ∧ q.2.2 < fw_nf q.2.1 ∧ ((fw_cl q.2.1).2.1 q.2.2).1 = (fw_cl q.2.1).1 ∧ Cond.fieldLink own q.1 (fw_cl q.2.1).1 ((fw_cl q.2.1).2.1 q.2.2).2.1 ((fw_cl q.2.1).2.1 q.2.2).2.2.1 ∈ fw_LW
theorem fw_ko_6 {o : Nat} (h : fw_ko o = 6) : o = 492 := by
  have hlt := fw_ko_lt (o := o) (by omega)
  have k : ∀ o, o < 499 → fw_ko o = 6 → o = 492 := by decide +kernel
  exact k o hlt h
theorem fw_ko_11 {o : Nat} (h : fw_ko o = 11) : o = 498 := by
  have hlt := fw_ko_lt (o := o) (by omega)
  have k : ∀ o, o < 499 → fw_ko o = 11 → o = 498 := by decide +kernel
  exact k o hlt h
theorem fw_fv_stl {M : fw_M} {ci k a j : Nat} {x : Int64} (h : fw_fc ci k ≠ 1 ∨ j ≠ 0) : fw_fv ci k a (fw_stl M j x) = fw_fv ci k a M := by
  unfold fw_fv fw_fw
  rcases hf : fw_fc ci k with _ | _ | n
  · rfl
  · show Value.long (vp_updL M.2.1 j x 0) = _
    rw [hf] at h
    have hj : j ≠ 0 := h.elim (fun z => absurd rfl z) id
    simp [vp_updL, Ne.symm hj]
  · rfl
theorem fw_putl {g : fw_G} {B o : Nat} {M : fw_M} {x : Int64} (ho : o < 499) (h : fw_ko o = 6) :
    (fw_WL g B M).set o (B + o, .inr (6, (fw_fs 6 (B + o) M).set 10 (.long x))) = fw_WL g B (fw_stl M 0 x) := by
  refine fw_WL_set ho ?_ (fun o' ho' hn => ?_)
  · rw [fw_ct_obj h (by decide), fw_fs_set (by decide) ?_ (fun j hj => ?_)]
    · show Value.long (vp_updL M.2.1 0 x 0) = _
      simp [vp_updL]
    · refine fw_fv_stl (Or.inl ?_)
      intro hf
      rcases Nat.lt_or_ge j 11 with q | q
      · exact hj (fw_c1 6 (by decide) j q hf).2.1
      · match j, q, hf with
        | n + 11, _, hf => simp [fw_fc] at hf
  · have e : ∀ k, fw_fv (fw_ko o') k (B + o') (fw_stl M 0 x) = fw_fv (fw_ko o') k (B + o') M := fun k => by
      refine fw_fv_stl (Or.inl fun hf => ?_)
      have h6 : fw_ko o' = 6 := by
        by_cases q : fw_ko o' = 6
        · exact q
        · exfalso
          revert hf
          generalize fw_ko o' = z at q
          intro hf
          unfold fw_fc at hf
          split at hf <;> first | omega | contradiction
      exact hn ((fw_ko_6 h6).trans (fw_ko_6 h).symm)
    have e2 : (fun j => (fw_stl M 0 x).2.1 (1 + j)) = fun j => M.2.1 (1 + j) := by
      funext j
      show vp_updL M.2.1 0 x (1 + j) = _
      unfold vp_updL
      rw [if_neg (by omega)]
    unfold fw_ct fw_fs
    simp only [e]
    rw [e2]
    rfl
theorem fw_lastl {g : fw_G} {B o : Nat} {M : fw_M} {x : Int64} (ho : o < 499) (h : fw_ko o = 11) :
    (fw_WL g B M).set o (B + o, .inl (g.2 4, 1, .inr (.inl (vp_updL (fun j => M.2.1 (1 + j)) 0 x)))) = fw_WL g B (fw_stl M 1 x) := by
  refine fw_WL_set ho ?_ (fun o' ho' hn => ?_)
  · rw [fw_ct_11 h]
    have e : (fun j => (fw_stl M 1 x).2.1 (1 + j)) = vp_updL (fun j => M.2.1 (1 + j)) 0 x := by
      funext j
      show vp_updL M.2.1 1 x (1 + j) = _
      unfold vp_updL
      by_cases q : j = 0
      · subst q; simp
      · rw [if_neg q, if_neg (by omega)]
    rw [e]
  · have h11 : fw_ko o' ≠ 11 := fun q => hn ((fw_ko_11 q).trans (fw_ko_11 h).symm)
    unfold fw_ct fw_fs
    simp only [fw_fv_stl (M := M) (j := 1) (x := x) (Or.inr (by decide))]
    have hlt : fw_ko o' ≤ 11 := by
      have k : ∀ o, o < 499 → fw_ko o ≤ 11 := by decide +kernel
      exact k o' ho'
    by_cases c1 : fw_ko o' < 7
    · rw [if_pos c1, if_pos c1]
    · rw [if_neg c1, if_neg c1]
      by_cases c2 : fw_ko o' = 7
      · rw [if_pos c2, if_pos c2]; rfl
      · rw [if_neg c2, if_neg c2]
        by_cases c3 : fw_ko o' = 8
        · rw [if_pos c3, if_pos c3]
        · rw [if_neg c3, if_neg c3]
          by_cases c4 : fw_ko o' = 9
          · rw [if_pos c4, if_pos c4]
          · rw [if_neg c4, if_neg c4, if_pos (by omega), if_pos (by omega)]
end SD
end
section
/-! SOUNDNESS of a step, of a stretch, of a body with loops -/
section SW
variable {p : Program} {l : Launch} {e : Env} {R : Room} {s : State} {m : MethodId} {args : Array Value} {below : List Frame} {meth : Method} {c : Code} {Qs : State → Prop} {cc : ByteArray} {nL B : Nat} {g : fw_G} {cf sf : Nat → Nat} {own : String}
variable {fld : List (Nat × Nat × Nat)} {cal : List fw_Cal} {thr : List (Nat × String)} {cst : List (Nat × Value)} {scr : Option (Nat × Nat × (Nat → Int32))} {rt : Option FieldType} {Q : Option Value → fw_M → Prop} {QX : String → fw_M → Prop}
def fw_Env (p : Program) (s : State) (m : MethodId) (args : Array Value) (c : Code) (cc : ByteArray) (nL : Nat) (g : fw_G) (own : String) : Prop :=
  p.tables.exec = Jvm.exec ∧ c.code = cc ∧ c.maxLocals = nL ∧ s.vm.findClass own = some m.cls ∧ (∀ w ∈ fw_LW, w.before args s = true) ∧ va_K g.1 vwCl (fw_tys g) s
/-- from here, with these locals, this stack, this memory, the machine comes to Qs -/
def fw_WW (p : Program) (l : Launch) (e : Env) (R : Room) (s : State) (m : MethodId) (args : Array Value) (below : List Frame) (meth : Method) (c : Code) (nL B : Nat) (g : fw_G) (cf sf : Nat → Nat) (Qs : State → Prop) (pc : Nat) (ls : fw_L) (st : List Value) (M : fw_M) : Prop :=
  ∀ (H : Heap) (locs : List Loc) (la : Array Slot), va_P g.1 vwCl (fw_WL g B M) H → va_S (fun q => B ≤ q) s.heap H locs → fw_lr ls la nL → W p l e R s m args below meth c H locs (cf M.2.2) (sf M.2.2) Qs (F0 m pc la st)
def fw_CallOK (p : Program) (l : Launch) (e : Env) (R : Room) (s : State) (m : MethodId) (args : Array Value) (below : List Frame) (meth : Method) (c : Code) (cc : ByteArray) (nL B : Nat) (g : fw_G) (cf sf : Nat → Nat) (Qs : State → Prop) (q : fw_Cal) : Prop :=
  ∀ (pc : Nat) (as rest : List Value) (M : fw_M) (ls : fw_L) (Qr : Option Value → fw_M → Prop),
    ((q.2.1 = 0 ∧ decode cc pc = .ok (.invokevirtual q.1, 3) ∧ ∃ b as', as = .ref b :: as' ∧ fw_kd B b = q.2.2.1) ∨ (q.2.1 = 1 ∧ decode cc pc = .ok (.invokestatic q.1, 3))) →
    as.length = q.2.2.2.1 → (rest.map fun v => v.category).sum ≤ 8 → q.2.2.2.2.2 as M Qr →
    (∀ r M', Qr r M' → fw_WW p l e R s m args below meth c nL B g cf sf Qs (pc + 3) ls (r.toList ++ rest) (fw_inc q.2.2.2.2.1 M M')) →
    fw_WW p l e R s m args below meth c nL B g cf sf Qs pc ls (as.reverse ++ rest) M
def fw_ThrOK (p : Program) (l : Launch) (e : Env) (R : Room) (s : State) (m : MethodId) (args : Array Value) (below : List Frame) (meth : Method) (c : Code) (cc : ByteArray) (nL B : Nat) (g : fw_G) (cf sf : Nat → Nat) (Qs : State → Prop) (QX : String → fw_M → Prop) (q : Nat × String) : Prop :=
  ∀ (pc : Nat) (ls : fw_L) (M : fw_M), decode cc pc = .ok (.new q.1, 3) → (decode cc (pc + 3) = .ok (.dup, 1) ∧ decode cc (pc + 4) = .ok (.invokespecial (q.1 + 2), 3) ∧ decode cc (pc + 7) = .ok (.athrow, 1)) → QX q.2 M → fw_WW p l e R s m args below meth c nL B g cf sf Qs pc ls [] M
def fw_RetOK (p : Program) (l : Launch) (e : Env) (R : Room) (s : State) (m : MethodId) (args : Array Value) (below : List Frame) (meth : Method) (c : Code) (cc : ByteArray) (nL B : Nat) (g : fw_G) (cf sf : Nat → Nat) (Qs : State → Prop) (rt : Option FieldType) (Q : Option Value → fw_M → Prop) : Prop :=
  ∀ (pc : Nat) (ls : fw_L) (st : List Value) (M : fw_M),
    (decode cc pc = .ok (.ireturn, 1) → fw_endi rt Q st M → fw_WW p l e R s m args below meth c nL B g cf sf Qs pc ls st M) ∧
    (decode cc pc = .ok (.areturn, 1) → fw_enda rt Q st M → fw_WW p l e R s m args below meth c nL B g cf sf Qs pc ls st M) ∧
    (decode cc pc = .ok (.lreturn, 1) → fw_endl rt Q st M → fw_WW p l e R s m args below meth c nL B g cf sf Qs pc ls st M) ∧
    (decode cc pc = .ok (.dreturn, 1) → fw_endd rt Q st M → fw_WW p l e R s m args below meth c nL B g cf sf Qs pc ls st M) ∧
    (decode cc pc = .ok (.return_, 1) → fw_endv rt Q st M → fw_WW p l e R s m args below meth c nL B g cf sf Qs pc ls st M)
def fw_NewOK (cc : ByteArray) (en : fw_Ent) : Prop := match en.2.2.1 with
  | .new k => decode cc (en.1 + 3) = .ok (.dup, 1) ∧ decode cc (en.1 + 4) = .ok (.invokespecial (k + 2), 3) ∧ decode cc (en.1 + 7) = .ok (.athrow, 1)
  | _ => True
def fw_ScrOK (s : State) (B : Nat) (scr : Option (Nat × Nat × (Nat → Int32))) : Prop := match scr with
  | none => True
  | some (b, L, xs) => va_X b L xs s s.heap ∧ b < s.heap.size ∧ ¬ B ≤ b
/-- the constants of the code are the pool's -/
def fw_CstOK (own : String) (cst : List (Nat × Value)) (en : fw_Ent) : Prop := match en.2.2.1 with
  | .ldc i => Cond.constant own i en.2.2.2.1 ∈ fw_LW
  | .ldc_w i => Cond.constant own i en.2.2.2.1 ∈ fw_LW
  | .ldc2_w i => ∀ v, fw_find i cst = some (.long v) → Cond.constantLong own i v ∈ fw_LW
  | _ => True
theorem fw_and2 {a b : Bool} (h : (a && b) = true) : a = true ∧ b = true := by
  cases a <;> cases b <;> simp_all
theorem fw_call_ok {q : Nat × Nat × Nat × Nat × fw_CT} {i kind : Nat} {pc : Nat} {ls : fw_L} {st : List Value} {M : fw_M} {k : List Value → fw_M → Prop}
    (hcal : fw_CallOK p l e R s m args below meth c cc nL B g cf sf Qs (i, q)) (hd : (kind = 0 ∧ decode cc pc = .ok (.invokevirtual i, 3)) ∨ (kind = 1 ∧ decode cc pc = .ok (.invokestatic i, 3)))
    (hk : ∀ st M, k st M → fw_WW p l e R s m args below meth c nL B g cf sf Qs (pc + 3) ls st M) (h : fw_call B kind (some q) st M k) : fw_WW p l e R s m args below meth c nL B g cf sf Qs pc ls st M := by
  obtain ⟨kd, ci, n, inc, ct⟩ := q
  have h : (bif Nat.beq kd kind && Nat.ble n st.length && Nat.ble (((st.drop n).map fun v => v.category).sum) 8 then fw_rcv B kind ci (st.take n).reverse (fw_cti inc ct (st.take n).reverse M (fun r M' => k (r.toList ++ st.drop n) M')) else False) := h
  cases hb : (Nat.beq kd kind && Nat.ble n st.length && Nat.ble (((st.drop n).map fun v => v.category).sum) 8) with
  | false => rw [hb] at h; exact h.elim
  | true =>
    rw [hb] at h
    have h5 : fw_rcv B kind ci (st.take n).reverse (fw_cti inc ct (st.take n).reverse M (fun r M' => k (r.toList ++ st.drop n) M')) := h
    clear h
    obtain ⟨hb1, hb3⟩ := fw_and2 hb
    obtain ⟨hb1, hb2⟩ := fw_and2 hb1
    have e1 : kd = kind := Nat.eq_of_beq_eq_true hb1
    have e2 : n ≤ st.length := Nat.le_of_ble_eq_true hb2
    have e3 := Nat.le_of_ble_eq_true hb3
    have hst : st = ((st.take n).reverse).reverse ++ st.drop n := by rw [List.reverse_reverse, List.take_append_drop]
    have hlen : ((st.take n).reverse).length = n := by rw [List.length_reverse, List.length_take]; omega
    clear hb hb1 hb2 e2
    generalize st.drop n = rest at h5 e3 hst
    generalize (st.take n).reverse = as at h5 hst hlen
    subst hst
    rcases hd with ⟨rfl, hd⟩ | ⟨rfl, hd⟩
    · rcases as with _ | ⟨v, as'⟩
      · exact h5.elim
      · cases v <;> first | exact h5.elim | skip
        obtain ⟨hkd, h6⟩ := h5
        exact hcal pc _ rest M ls _ (Or.inl ⟨e1, hd, _, as', rfl, hkd⟩) hlen e3 (fw_cti_e h6) (fun r M' hq => hk _ _ hq)
    · exact hcal pc as rest M ls _ (Or.inr ⟨e1, hd⟩) hlen e3 (fw_cti_e (k := fun r M' => k (r.toList ++ rest) M') (by cases as <;> exact h5)) (fun r M' hq => hk _ _ hq)
theorem fw_tsw_in {x : Int32} {pc : Nat} {jp : Nat → Prop} : ∀ {offs : List Int} {lo : Int}, fw_tsw x pc jp offs lo → ∀ (j : Nat) (o : Int), offs[j]? = some o → x.toInt = lo + j → jp ((pc : Int) + o).toNat := by
  intro offs
  induction offs with
  | nil => intro lo h j o hj; cases hj
  | cons a t ih =>
    intro lo h j o hj hx
    cases j with
    | zero =>
      have hj : some a = some o := hj
      cases hj
      exact h.1 (by omega)
    | succ j => exact ih h.2 j o hj (by omega)
theorem fw_lsw_in {x : Int32} {jp : Int → Prop} {d : Int} : ∀ {ps : List (Int × Int)}, fw_lsw x jp d ps → jp (Op.lookupswitch.offset ps d x.toInt) ∧ (Op.lookupswitch.offset ps d x.toInt = d ∨ ∃ q ∈ ps, q.2 = Op.lookupswitch.offset ps d x.toInt) := by
  intro ps
  induction ps with
  | nil =>
    intro h
    exact ⟨h, Or.inl rfl⟩
  | cons q t ih =>
    intro h
    by_cases hq : x.toInt = q.1
    · have e : Op.lookupswitch.offset (q :: t) d x.toInt = q.2 := by
        rw [show q :: t = (q.1, q.2) :: t from rfl, Op.lookupswitch.offset_cons, if_pos hq.symm]
      rw [e]
      exact ⟨h.1 hq, Or.inr ⟨q, List.mem_cons_self, rfl⟩⟩
    · have e : Op.lookupswitch.offset (q :: t) d x.toInt = Op.lookupswitch.offset t d x.toInt := by
        rw [show q :: t = (q.1, q.2) :: t from rfl, Op.lookupswitch.offset_cons, if_neg (fun z => hq z.symm)]
      rw [e]
      obtain ⟨h1, h2⟩ := ih (h.2 hq)
      refine ⟨h1, ?_⟩
      rcases h2 with h2 | ⟨q', h2, h3⟩
      · exact Or.inl h2
      · exact Or.inr ⟨q', List.mem_cons_of_mem _ h2, h3⟩
set_option maxHeartbeats 4000000 in
set_option maxRecDepth 20000 in
theorem fw_stp_sound (E : fw_Env p s m args c cc nL g own) {en : fw_Ent} {ls : fw_L} {st : List Value} {M : fw_M} {nx : fw_L → List Value → fw_M → Prop} {jp : Nat → fw_L → List Value → fw_M → Prop}
    (hd : decode cc en.1 = .ok (en.2.2.1, en.2.1)) (ht : fw_lt nL en = true) (hfld : fw_Fld own fld) (hcst : fw_CstOK own cst en) (hnw : fw_NewOK cc en) (hscr : fw_ScrOK s B scr)
    (hcal : ∀ q ∈ cal, fw_CallOK p l e R s m args below meth c cc nL B g cf sf Qs q) (hthr : ∀ q ∈ thr, fw_ThrOK p l e R s m args below meth c cc nL B g cf sf Qs QX q) (hret : fw_RetOK p l e R s m args below meth c cc nL B g cf sf Qs rt Q)
    (hnx : ∀ ls st M, nx ls st M → fw_WW p l e R s m args below meth c nL B g cf sf Qs (en.1 + en.2.1) ls st M) (hjp : ∀ t ls st M, jp t ls st M → fw_WW p l e R s m args below meth c nL B g cf sf Qs t ls st M)
    (h : fw_stp B fld cal thr cst scr rt Q QX en ls st M nx jp) : fw_WW p l e R s m args below meth c nL B g cf sf Qs en.1 ls st M := by
  obtain ⟨pc, len, i, num, tgt⟩ := en
  obtain ⟨hx, hb, hml, hown, hts, hK⟩ := E
  dsimp only at hd hnx ⊢
  cases i with
  | aconst_null =>
    have ht : Nat.beq len 1 = true := ht
    have hl9 := Nat.eq_of_beq_eq_true ht
    subst hl9
    intro H locs la hP hS hl
    exact lv_null hx hb hd (hnx _ _ _ h H locs la hP hS hl)
  | iconst n =>
    obtain ⟨ht, hv⟩ := fw_and2 ht
    have hl9 := Nat.eq_of_beq_eq_true ht
    dsimp only at hl9
    subst hl9
    have hv := of_decide_eq_true hv
    intro H locs la hP hS hl
    exact lv_iconst hx hb hd hv (hnx _ _ _ h H locs la hP hS hl)
  | bipush n =>
    obtain ⟨ht, hv⟩ := fw_and2 ht
    have hl9 := Nat.eq_of_beq_eq_true ht
    dsimp only at hl9
    subst hl9
    have hv := of_decide_eq_true hv
    intro H locs la hP hS hl
    exact lv_bipush hx hb hd hv (hnx _ _ _ h H locs la hP hS hl)
  | sipush n =>
    obtain ⟨ht, hv⟩ := fw_and2 ht
    have hl9 := Nat.eq_of_beq_eq_true ht
    dsimp only at hl9
    subst hl9
    have hv := of_decide_eq_true hv
    intro H locs la hP hS hl
    exact lv_sipush hx hb hd hv (hnx _ _ _ h H locs la hP hS hl)
  | ldc k =>
    have ht : Nat.beq len 2 = true := ht
    have hl9 := Nat.eq_of_beq_eq_true ht
    subst hl9
    intro H locs la hP hS hl
    exact lv_ldc hx hb hown (hts _ hcst) hd (hnx _ _ _ h H locs la hP hS hl)
  | ldc_w k =>
    have ht : Nat.beq len 3 = true := ht
    have hl9 := Nat.eq_of_beq_eq_true ht
    subst hl9
    intro H locs la hP hS hl
    exact lv_ldcw hx hb hown (hts _ hcst) hd (hnx _ _ _ h H locs la hP hS hl)
  | ldc2_w k =>
    have ht : Nat.beq len 3 = true := ht
    have hl9 := Nat.eq_of_beq_eq_true ht
    subst hl9
    have h : (match fw_find k cst with | some (.long v) => nx ls (.long v :: st) M | _ => False) := h
    split at h
    · rename_i v hv
      intro H locs la hP hS hl
      exact lv_ldc2 hx hb hown (hts _ (hcst v hv)) hd (hnx _ _ _ h H locs la hP hS hl)
    · exact h.elim
  | dconst d =>
    obtain ⟨ht, hv⟩ := fw_and2 ht
    have hl9 := Nat.eq_of_beq_eq_true ht
    dsimp only at hl9
    subst hl9
    have hv : d = 1 := of_decide_eq_true hv
    subst hv
    intro H locs la hP hS hl
    exact lv_dconst1 hx hb hd (hnx _ _ _ h H locs la hP hS hl)
  | iload_n k =>
    have ht : Nat.beq len 1 = true := ht
    have hl9 := Nat.eq_of_beq_eq_true ht
    subst hl9
    obtain ⟨x, hx1, h⟩ := fw_li_e h
    intro H locs la hP hS hl
    exact lv_iload_n hx hb hd rfl (hl.2.2 _ _ hx1) (hnx _ _ _ h H locs la hP hS hl)
  | iload k =>
    have ht : Nat.beq len 2 = true := ht
    have hl9 := Nat.eq_of_beq_eq_true ht
    subst hl9
    obtain ⟨x, hx1, h⟩ := fw_li_e h
    intro H locs la hP hS hl
    exact lv_iload hx hb hd (hl.2.2 _ _ hx1) (hnx _ _ _ h H locs la hP hS hl)
  | lload_n k =>
    have ht : Nat.beq len 1 = true := ht
    have hl9 := Nat.eq_of_beq_eq_true ht
    subst hl9
    obtain ⟨x, hx1, h⟩ := fw_lo64_e h
    intro H locs la hP hS hl
    exact lv_lload_n hx hb hd rfl (hl.2.2 _ _ hx1) (hnx _ _ _ h H locs la hP hS hl)
  | lload k =>
    have ht : Nat.beq len 2 = true := ht
    have hl9 := Nat.eq_of_beq_eq_true ht
    subst hl9
    obtain ⟨x, hx1, h⟩ := fw_lo64_e h
    intro H locs la hP hS hl
    exact lv_lload hx hb hd (hl.2.2 _ _ hx1) (hnx _ _ _ h H locs la hP hS hl)
  | dload_n k =>
    have ht : Nat.beq len 1 = true := ht
    have hl9 := Nat.eq_of_beq_eq_true ht
    subst hl9
    obtain ⟨x, hx1, h⟩ := fw_ld64_e h
    intro H locs la hP hS hl
    exact lv_dload_n hx hb hd rfl (hl.2.2 _ _ hx1) (hnx _ _ _ h H locs la hP hS hl)
  | dload k =>
    have ht : Nat.beq len 2 = true := ht
    have hl9 := Nat.eq_of_beq_eq_true ht
    subst hl9
    obtain ⟨x, hx1, h⟩ := fw_ld64_e h
    intro H locs la hP hS hl
    exact lv_dload hx hb hd (hl.2.2 _ _ hx1) (hnx _ _ _ h H locs la hP hS hl)
  | aload_n k =>
    have ht : Nat.beq len 1 = true := ht
    have hl9 := Nat.eq_of_beq_eq_true ht
    subst hl9
    have h : fw_la (fw_lg ls k.val) (fun x => nx ls (x :: st) M) := h
    rcases fw_la_e h with ⟨x, hx1, h⟩ | ⟨hx1, h⟩
    · intro H locs la hP hS hl
      exact lv_aload_n hx hb hd rfl (hl.2.2 _ _ hx1) (hnx _ _ _ h H locs la hP hS hl)
    · intro H locs la hP hS hl
      exact lv_aload_nN hx hb hd rfl (hl.2.2 _ _ hx1) (hnx _ _ _ h H locs la hP hS hl)
  | aload k =>
    have ht : Nat.beq len 2 = true := ht
    have hl9 := Nat.eq_of_beq_eq_true ht
    subst hl9
    have h : fw_la (fw_lg ls k) (fun x => nx ls (x :: st) M) := h
    rcases fw_la_e h with ⟨x, hx1, h⟩ | ⟨hx1, h⟩
    · intro H locs la hP hS hl
      exact lv_aload hx hb hd (hl.2.2 _ _ hx1) (hnx _ _ _ h H locs la hP hS hl)
    · intro H locs la hP hS hl
      exact lv_aloadN hx hb hd (hl.2.2 _ _ hx1) (hnx _ _ _ h H locs la hP hS hl)
  | istore_n k =>
    obtain ⟨ht, hk⟩ := fw_and2 ht
    have hl9 := Nat.eq_of_beq_eq_true ht
    dsimp only at hl9
    subst hl9
    have hk := Nat.le_of_ble_eq_true hk
    obtain ⟨x, r, rfl, h⟩ := fw_i_e h
    intro H locs la hP hS hl
    exact lv_istore_n hx hb hd rfl (fw_lr_has hl) (by omega) rfl (fun la hl => hnx _ _ _ h H locs la hP hS (fw_lr_s1 hl))
  | istore k =>
    obtain ⟨ht, hk⟩ := fw_and2 ht
    have hl9 := Nat.eq_of_beq_eq_true ht
    dsimp only at hl9
    subst hl9
    have hk := Nat.le_of_ble_eq_true hk
    obtain ⟨x, r, rfl, h⟩ := fw_i_e h
    intro H locs la hP hS hl
    exact lv_istore hx hb hd (fw_lr_has hl) (by omega) rfl (fun la hl => hnx _ _ _ h H locs la hP hS (fw_lr_s1 hl))
  | lstore_n k =>
    obtain ⟨ht, hk⟩ := fw_and2 ht
    have hl9 := Nat.eq_of_beq_eq_true ht
    dsimp only at hl9
    subst hl9
    have hk := Nat.le_of_ble_eq_true hk
    obtain ⟨x, r, rfl, h⟩ := fw_l_e h
    intro H locs la hP hS hl
    exact lv_lstore_n hx hb hd rfl (fw_lr_has hl) (by omega) rfl (fun la hl => hnx _ _ _ h H locs la hP hS (fw_lr_s2 hl))
  | lstore k =>
    obtain ⟨ht, hk⟩ := fw_and2 ht
    have hl9 := Nat.eq_of_beq_eq_true ht
    dsimp only at hl9
    subst hl9
    have hk := Nat.le_of_ble_eq_true hk
    obtain ⟨x, r, rfl, h⟩ := fw_l_e h
    intro H locs la hP hS hl
    exact lv_lstore hx hb hd (fw_lr_has hl) (by omega) rfl (fun la hl => hnx _ _ _ h H locs la hP hS (fw_lr_s2 hl))
  | dstore_n k =>
    obtain ⟨ht, hk⟩ := fw_and2 ht
    have hl9 := Nat.eq_of_beq_eq_true ht
    dsimp only at hl9
    subst hl9
    have hk := Nat.le_of_ble_eq_true hk
    obtain ⟨x, r, rfl, h⟩ := fw_d_e h
    intro H locs la hP hS hl
    exact lv_dstore_n hx hb hd rfl (fw_lr_has hl) (by omega) rfl (fun la hl => hnx _ _ _ h H locs la hP hS (fw_lr_s2 hl))
  | dstore k =>
    obtain ⟨ht, hk⟩ := fw_and2 ht
    have hl9 := Nat.eq_of_beq_eq_true ht
    dsimp only at hl9
    subst hl9
    have hk := Nat.le_of_ble_eq_true hk
    obtain ⟨x, r, rfl, h⟩ := fw_d_e h
    intro H locs la hP hS hl
    exact lv_dstore hx hb hd (fw_lr_has hl) (by omega) rfl (fun la hl => hnx _ _ _ h H locs la hP hS (fw_lr_s2 hl))
  | astore_n k =>
    obtain ⟨ht, hk⟩ := fw_and2 ht
    have hl9 := Nat.eq_of_beq_eq_true ht
    dsimp only at hl9
    subst hl9
    have hk := Nat.le_of_ble_eq_true hk
    have h : fw_a st (fun x r => nx (fw_s1 ls k.val x) r M) (fun r => nx (fw_s1 ls k.val .null) r M) := h
    rcases fw_a_e h with ⟨x, r, rfl, h⟩ | ⟨r, rfl, h⟩
    · intro H locs la hP hS hl
      exact lv_astore_n hx hb hd rfl (fw_lr_has hl) (by omega) rfl (fun la hl => hnx _ _ _ h H locs la hP hS (fw_lr_s1 hl))
    · intro H locs la hP hS hl
      exact lv_astore_nN hx hb hd rfl (fw_lr_has hl) (by omega) rfl (fun la hl => hnx _ _ _ h H locs la hP hS (fw_lr_s1 hl))
  | astore k =>
    obtain ⟨ht, hk⟩ := fw_and2 ht
    have hl9 := Nat.eq_of_beq_eq_true ht
    dsimp only at hl9
    subst hl9
    have hk := Nat.le_of_ble_eq_true hk
    have h : fw_a st (fun x r => nx (fw_s1 ls k x) r M) (fun r => nx (fw_s1 ls k .null) r M) := h
    rcases fw_a_e h with ⟨x, r, rfl, h⟩ | ⟨r, rfl, h⟩
    · intro H locs la hP hS hl
      exact lv_astore hx hb hd (fw_lr_has hl) (by omega) rfl (fun la hl => hnx _ _ _ h H locs la hP hS (fw_lr_s1 hl))
    · intro H locs la hP hS hl
      exact lv_astoreN hx hb hd (fw_lr_has hl) (by omega) rfl (fun la hl => hnx _ _ _ h H locs la hP hS (fw_lr_s1 hl))
  | iinc k n =>
    obtain ⟨ht, hv⟩ := fw_and2 ht
    obtain ⟨ht, hk⟩ := fw_and2 ht
    have hl9 := Nat.eq_of_beq_eq_true ht
    dsimp only at hl9
    subst hl9
    have hk := Nat.le_of_ble_eq_true hk
    have hv : Int32.ofInt n = num := of_decide_eq_true hv
    obtain ⟨x, hx1, h⟩ := fw_li_e h
    intro H locs la hP hS hl
    have hm := fw_as_mem (k := 0) hx1
    rw [Nat.zero_add] at hm
    obtain ⟨j, hj⟩ := List.getElem?_of_mem hm
    exact lv_iinc hx hb hd (fw_lr_has hl) hj (by rw [hv]) (by omega) rfl (fun la hl => hnx _ _ _ h H locs la hP hS (fw_lr_s1 hl))
  | iadd =>
    have ht : Nat.beq len 1 = true := ht
    have hl9 := Nat.eq_of_beq_eq_true ht
    subst hl9
    obtain ⟨x, y, r, rfl, h⟩ := fw_ii_e h
    intro H locs la hP hS hl
    exact lv_iadd hx hb hd (hnx _ _ _ h H locs la hP hS hl)
  | isub =>
    have ht : Nat.beq len 1 = true := ht
    have hl9 := Nat.eq_of_beq_eq_true ht
    subst hl9
    obtain ⟨x, y, r, rfl, h⟩ := fw_ii_e h
    intro H locs la hP hS hl
    exact lv_isub hx hb hd (hnx _ _ _ h H locs la hP hS hl)
  | imul =>
    have ht : Nat.beq len 1 = true := ht
    have hl9 := Nat.eq_of_beq_eq_true ht
    subst hl9
    obtain ⟨x, y, r, rfl, h⟩ := fw_ii_e h
    intro H locs la hP hS hl
    exact lv_imul hx hb hd (hnx _ _ _ h H locs la hP hS hl)
  | iand =>
    have ht : Nat.beq len 1 = true := ht
    have hl9 := Nat.eq_of_beq_eq_true ht
    subst hl9
    obtain ⟨x, y, r, rfl, h⟩ := fw_ii_e h
    intro H locs la hP hS hl
    exact lv_iand hx hb hd (hnx _ _ _ h H locs la hP hS hl)
  | ior =>
    have ht : Nat.beq len 1 = true := ht
    have hl9 := Nat.eq_of_beq_eq_true ht
    subst hl9
    obtain ⟨x, y, r, rfl, h⟩ := fw_ii_e h
    intro H locs la hP hS hl
    exact lv_ior hx hb hd (hnx _ _ _ h H locs la hP hS hl)
  | ishl =>
    have ht : Nat.beq len 1 = true := ht
    have hl9 := Nat.eq_of_beq_eq_true ht
    subst hl9
    obtain ⟨x, y, r, rfl, h⟩ := fw_ii_e h
    intro H locs la hP hS hl
    exact lv_ishl hx hb hd (hnx _ _ _ h H locs la hP hS hl)
  | ishr =>
    have ht : Nat.beq len 1 = true := ht
    have hl9 := Nat.eq_of_beq_eq_true ht
    subst hl9
    obtain ⟨x, y, r, rfl, h⟩ := fw_ii_e h
    intro H locs la hP hS hl
    exact lv_ishr hx hb hd (hnx _ _ _ h H locs la hP hS hl)
  | idiv =>
    have ht : Nat.beq len 1 = true := ht
    have hl9 := Nat.eq_of_beq_eq_true ht
    subst hl9
    obtain ⟨x, y, r, rfl, hy, h⟩ := fw_ii_e h
    intro H locs la hP hS hl
    exact lv_idiv hx hb hd (fw_sd_e hy) (hnx _ _ _ h H locs la hP hS hl)
  | irem =>
    have ht : Nat.beq len 1 = true := ht
    have hl9 := Nat.eq_of_beq_eq_true ht
    subst hl9
    obtain ⟨x, y, r, rfl, hy, h⟩ := fw_ii_e h
    intro H locs la hP hS hl
    exact lv_irem hx hb hd (fw_sd_e hy) (hnx _ _ _ h H locs la hP hS hl)
  | ineg =>
    have ht : Nat.beq len 1 = true := ht
    have hl9 := Nat.eq_of_beq_eq_true ht
    subst hl9
    obtain ⟨x, r, rfl, h⟩ := fw_i_e h
    intro H locs la hP hS hl
    exact lv_ineg hx hb hd (hnx _ _ _ h H locs la hP hS hl)
  | i2l =>
    have ht : Nat.beq len 1 = true := ht
    have hl9 := Nat.eq_of_beq_eq_true ht
    subst hl9
    obtain ⟨x, r, rfl, h⟩ := fw_i_e h
    intro H locs la hP hS hl
    exact lv_i2l hx hb hd rfl (hnx _ _ _ h H locs la hP hS hl)
  | i2d =>
    have ht : Nat.beq len 1 = true := ht
    have hl9 := Nat.eq_of_beq_eq_true ht
    subst hl9
    obtain ⟨x, r, rfl, h⟩ := fw_i_e h
    intro H locs la hP hS hl
    exact lv_i2d hx hb hd (hnx _ _ _ h H locs la hP hS hl)
  | ladd =>
    have ht : Nat.beq len 1 = true := ht
    have hl9 := Nat.eq_of_beq_eq_true ht
    subst hl9
    obtain ⟨x, y, r, rfl, h⟩ := fw_ll_e h
    intro H locs la hP hS hl
    exact lv_ladd hx hb hd (hnx _ _ _ h H locs la hP hS hl)
  | lmul =>
    have ht : Nat.beq len 1 = true := ht
    have hl9 := Nat.eq_of_beq_eq_true ht
    subst hl9
    obtain ⟨x, y, r, rfl, h⟩ := fw_ll_e h
    intro H locs la hP hS hl
    exact lv_lmul hx hb hd (hnx _ _ _ h H locs la hP hS hl)
  | lcmp =>
    have ht : Nat.beq len 1 = true := ht
    have hl9 := Nat.eq_of_beq_eq_true ht
    subst hl9
    obtain ⟨x, y, r, rfl, h⟩ := fw_ll_e h
    intro H locs la hP hS hl
    exact W.lcmp hx hb hd (hnx _ _ _ h H locs la hP hS hl)
  | ddiv =>
    have ht : Nat.beq len 1 = true := ht
    have hl9 := Nat.eq_of_beq_eq_true ht
    subst hl9
    obtain ⟨x, y, r, rfl, hy, h⟩ := fw_dd_e h
    intro H locs la hP hS hl
    exact lv_ddiv hx hb hd hy (hnx _ _ _ h H locs la hP hS hl)
  | dcmp op =>
    have ht : Nat.beq len 1 = true := ht
    have hl9 := Nat.eq_of_beq_eq_true ht
    subst hl9
    obtain ⟨x, y, r, rfl, h⟩ := fw_dd_e h
    intro H locs la hP hS hl
    exact lv_dcmp hx hb hd (hnx _ _ _ h H locs la hP hS hl)
  | dup =>
    have ht : Nat.beq len 1 = true := ht
    have hl9 := Nat.eq_of_beq_eq_true ht
    subst hl9
    have h : fw_w st (fun v r => nx ls (v :: v :: r) M) := h
    obtain ⟨v, r, rfl, hv, h⟩ := fw_w_e h
    intro H locs la hP hS hl
    exact lv_dup hx hb hd hv (hnx _ _ _ h H locs la hP hS hl)
  | pop =>
    have ht : Nat.beq len 1 = true := ht
    have hl9 := Nat.eq_of_beq_eq_true ht
    subst hl9
    have h : fw_w st (fun _ r => nx ls r M) := h
    obtain ⟨v, r, rfl, hv, h⟩ := fw_w_e h
    intro H locs la hP hS hl
    exact lv_pop hx hb hd hv (hnx _ _ _ h H locs la hP hS hl)
  | dup2 =>
    have ht : Nat.beq len 1 = true := ht
    have hl9 := Nat.eq_of_beq_eq_true ht
    subst hl9
    have h : fw_w st (fun v r => fw_w r fun u r => nx ls (v :: u :: v :: u :: r) M) := h
    obtain ⟨v, r, rfl, hv, h⟩ := fw_w_e h
    obtain ⟨u, r, rfl, hu, h⟩ := fw_w_e h
    intro H locs la hP hS hl
    exact lv_dup2_11 hx hb hd hv hu (hnx _ _ _ h H locs la hP hS hl)
  | if_icmp cnd off =>
    obtain ⟨ht, hv⟩ := fw_and2 ht
    have hl9 := Nat.eq_of_beq_eq_true ht
    dsimp only at hl9
    subst hl9
    have hv := of_decide_eq_true hv
    cases cnd with
    | eq =>
      obtain ⟨x, y, r, rfl, h1, h2⟩ := fw_ii_e h
      intro H locs la hP hS hl
      exact lv_icmp_eq hx hb hd hv (fun z => hjp _ _ _ _ (h1 z) H locs la hP hS hl) (fun z => hnx _ _ _ (h2 z) H locs la hP hS hl)
    | ne =>
      obtain ⟨x, y, r, rfl, h1, h2⟩ := fw_ii_e h
      intro H locs la hP hS hl
      exact lv_icmp_ne hx hb hd hv (fun z => hjp _ _ _ _ (h1 z) H locs la hP hS hl) (fun z => hnx _ _ _ (h2 z) H locs la hP hS hl)
    | lt =>
      obtain ⟨x, y, r, rfl, h1, h2⟩ := fw_ii_e h
      intro H locs la hP hS hl
      exact lv_icmp_lt hx hb hd hv (fun z => hjp _ _ _ _ (h1 z) H locs la hP hS hl) (fun z => hnx _ _ _ (h2 z) H locs la hP hS hl)
    | ge =>
      obtain ⟨x, y, r, rfl, h1, h2⟩ := fw_ii_e h
      intro H locs la hP hS hl
      exact lv_icmp_ge hx hb hd hv (fun z => hjp _ _ _ _ (h1 z) H locs la hP hS hl) (fun z => hnx _ _ _ (h2 z) H locs la hP hS hl)
    | gt =>
      obtain ⟨x, y, r, rfl, h1, h2⟩ := fw_ii_e h
      intro H locs la hP hS hl
      exact lv_icmp_gt hx hb hd hv (fun z => hjp _ _ _ _ (h1 z) H locs la hP hS hl) (fun z => hnx _ _ _ (h2 z) H locs la hP hS hl)
    | le =>
      obtain ⟨x, y, r, rfl, h1, h2⟩ := fw_ii_e h
      intro H locs la hP hS hl
      exact lv_icmp_le hx hb hd hv (fun z => hjp _ _ _ _ (h1 z) H locs la hP hS hl) (fun z => hnx _ _ _ (h2 z) H locs la hP hS hl)
  | ifCond cnd off =>
    obtain ⟨ht, hv⟩ := fw_and2 ht
    have hl9 := Nat.eq_of_beq_eq_true ht
    dsimp only at hl9
    subst hl9
    have hv := of_decide_eq_true hv
    cases cnd with
    | eq =>
      obtain ⟨x, r, rfl, h1, h2⟩ := fw_i_e h
      intro H locs la hP hS hl
      exact lv_if_eq hx hb hd hv (fun z => hjp _ _ _ _ (h1 z) H locs la hP hS hl) (fun z => hnx _ _ _ (h2 z) H locs la hP hS hl)
    | ne =>
      obtain ⟨x, r, rfl, h1, h2⟩ := fw_i_e h
      intro H locs la hP hS hl
      exact lv_if_ne hx hb hd hv (fun z => hjp _ _ _ _ (h1 z) H locs la hP hS hl) (fun z => hnx _ _ _ (h2 z) H locs la hP hS hl)
    | lt =>
      obtain ⟨x, r, rfl, h1, h2⟩ := fw_i_e h
      intro H locs la hP hS hl
      exact lv_if_lt hx hb hd hv (fun z => hjp _ _ _ _ (h1 z) H locs la hP hS hl) (fun z => hnx _ _ _ (h2 z) H locs la hP hS hl)
    | ge =>
      obtain ⟨x, r, rfl, h1, h2⟩ := fw_i_e h
      intro H locs la hP hS hl
      exact lv_if_ge hx hb hd hv (fun z => hjp _ _ _ _ (h1 z) H locs la hP hS hl) (fun z => hnx _ _ _ (h2 z) H locs la hP hS hl)
    | gt =>
      obtain ⟨x, r, rfl, h1, h2⟩ := fw_i_e h
      intro H locs la hP hS hl
      exact lv_if_gt hx hb hd hv (fun z => hjp _ _ _ _ (h1 z) H locs la hP hS hl) (fun z => hnx _ _ _ (h2 z) H locs la hP hS hl)
    | le =>
      obtain ⟨x, r, rfl, h1, h2⟩ := fw_i_e h
      intro H locs la hP hS hl
      exact lv_if_le hx hb hd hv (fun z => hjp _ _ _ _ (h1 z) H locs la hP hS hl) (fun z => hnx _ _ _ (h2 z) H locs la hP hS hl)
  | ifnull off =>
    obtain ⟨ht, hv⟩ := fw_and2 ht
    have hl9 := Nat.eq_of_beq_eq_true ht
    dsimp only at hl9
    subst hl9
    have hv := of_decide_eq_true hv
    have h : fw_a st (fun _ r => nx ls r M) (fun r => jp tgt ls r M) := h
    rcases fw_a_e h with ⟨x, r, rfl, h⟩ | ⟨r, rfl, h⟩
    · intro H locs la hP hS hl
      exact lv_ifnull hx hb hd (hnx _ _ _ h H locs la hP hS hl)
    · intro H locs la hP hS hl
      exact lv_ifnullN hx hb hd hv (hjp _ _ _ _ h H locs la hP hS hl)
  | ifnonnull off =>
    obtain ⟨ht, hv⟩ := fw_and2 ht
    have hl9 := Nat.eq_of_beq_eq_true ht
    dsimp only at hl9
    subst hl9
    have hv := of_decide_eq_true hv
    have h : fw_a st (fun _ r => jp tgt ls r M) (fun r => nx ls r M) := h
    rcases fw_a_e h with ⟨x, r, rfl, h⟩ | ⟨r, rfl, h⟩
    · intro H locs la hP hS hl
      exact lv_ifnonnull hx hb hd hv (hjp _ _ _ _ h H locs la hP hS hl)
    · intro H locs la hP hS hl
      exact lv_ifnonnullN hx hb hd (hnx _ _ _ h H locs la hP hS hl)
  | goto off =>
    obtain ⟨ht, hv⟩ := fw_and2 ht
    have hl9 := Nat.eq_of_beq_eq_true ht
    dsimp only at hl9
    subst hl9
    have hv := of_decide_eq_true hv
    intro H locs la hP hS hl
    exact lv_goto hx hb hd hv (hjp _ _ _ _ h H locs la hP hS hl)
  | tableswitch d lo hi offs =>
    obtain ⟨ht, h3⟩ := fw_and2 ht
    obtain ⟨h1, h2⟩ := fw_and2 ht
    have h1 : (offs.toList.length : Int) = hi - lo + 1 := of_decide_eq_true h1
    have h2 : 0 ≤ (pc : Int) + d := of_decide_eq_true h2
    obtain ⟨x, r, rfl, ha, hz⟩ := fw_i_e h
    intro H locs la hP hS hl
    by_cases q : x.toInt < lo ∨ hi < x.toInt
    · exact lv_tableOut hx hb hd q (Int.toNat_of_nonneg h2).symm (hjp _ _ _ _ (hz q) H locs la hP hS hl)
    · have q1 : ¬ x.toInt < lo := fun z => q (Or.inl z)
      have q2 : ¬ hi < x.toInt := fun z => q (Or.inr z)
      have hj : (x.toInt - lo).toNat < offs.toList.length := by omega
      have hg : offs.toList[(x.toInt - lo).toNat]? = some (offs.toList[(x.toInt - lo).toNat]) := List.getElem?_eq_getElem hj
      have h4 := of_decide_eq_true (List.all_eq_true.mp h3 _ (List.getElem_mem hj))
      exact lv_tableIn hx hb hd q1 q2 (by rw [← Array.getElem?_toList]; exact hg) (Int.toNat_of_nonneg h4).symm (hjp _ _ _ _ (fw_tsw_in ha _ _ hg (by omega)) H locs la hP hS hl)
  | lookupswitch d ps =>
    obtain ⟨ht, h3⟩ := fw_and2 ht
    obtain ⟨h1, h2⟩ := fw_and2 ht
    have h1 : 0 ≤ (pc : Int) + d := of_decide_eq_true h1
    obtain ⟨x, r, rfl, h⟩ := fw_i_e h
    intro H locs la hP hS hl
    obtain ⟨ha, hz⟩ := fw_lsw_in h
    have h4 : 0 ≤ (pc : Int) + Op.lookupswitch.offset ps.toList d x.toInt := by
      rcases hz with hz | ⟨q, hq, hz⟩
      · rw [hz]; exact h1
      · rw [← hz]; exact of_decide_eq_true (List.all_eq_true.mp h2 _ hq)
    exact lv_lookup hx hb hd h3 rfl (Int.toNat_of_nonneg h4).symm (hjp _ _ _ _ ha H locs la hP hS hl)
  | getfield k =>
    have ht : Nat.beq len 3 = true := ht
    have hl9 := Nat.eq_of_beq_eq_true ht
    subst hl9
    obtain ⟨a, r, rfl, h⟩ := fw_r_e h
    have h : fw_get B (fw_find k fld) a M (fun v => nx ls (v :: r) M) := h
    unfold fw_get at h
    split at h
    · rename_i ci j hf
      obtain ⟨hkd, h⟩ := h
      obtain ⟨h1, h2, h3, h4⟩ := hfld _ (fw_find_mem hf)
      dsimp only at h1 h2 h3 h4
      obtain ⟨o, ho, rfl, hko⟩ := fw_kd_at hkd (by omega)
      intro H locs la hP hS hl
      exact va_get (D := g.1) (cl := vwCl) (tys := fw_tys g) (C := (fw_cl ci).1) (T := (fw_cl ci).2.1) (N := (fw_cl ci).2.2) (ref := (fw_cl ci).1) (ci := ci) hx hb hts (fw_cl_w ci h1) hown hK hP o (by rw [fw_WL_get ho, fw_ct_obj hko h1]) (fw_cl_get ci h1) j (by rw [fw_cl_n ci h1]; exact h2) (hts _ h4) (fun x hx => by rw [h3] at hx; exact hx) (fw_fs_get h2) hd (hnx _ _ _ h H locs la hP hS hl)
    · exact h.elim
  | putfield k =>
    have ht : Nat.beq len 3 = true := ht
    have hl9 := Nat.eq_of_beq_eq_true ht
    subst hl9
    have h : fw_putv B (fw_find k fld) st M (fun r M' => nx ls r M') := h
    unfold fw_putv at h
    split at h
    · rename_i ci j x a r hf _
      cases hc : Nat.beq (fw_fc ci j) 0 with
      | false => rw [hc] at h; exact h.elim
      | true =>
        rw [hc] at h
        have hc := Nat.eq_of_beq_eq_true hc
        obtain ⟨hkd, h⟩ := h
        obtain ⟨h1, h2, h3, h4⟩ := hfld _ (fw_find_mem hf)
        dsimp only at h1 h2 h3 h4
        obtain ⟨o, ho, rfl, hko⟩ := fw_kd_at hkd (by omega)
        obtain ⟨h5, h6⟩ := fw_c0 ci h1 j h2 hc
        intro H locs la hP hS hl
        exact va_put (D := g.1) (cl := vwCl) (tys := fw_tys g) (A := fun q => B ≤ q) (H0 := s.heap) (C := (fw_cl ci).1) (T := (fw_cl ci).2.1) (N := (fw_cl ci).2.2) (ref := (fw_cl ci).1) (ci := ci) (v := .int x) hx hb hts (fw_cl_w ci h1) (fw_ty ci) (fw_ty_ok ci h1) (fw_nm_ok ci h1) hown hK hP fw_WL_D hS o (by rw [fw_WL_get ho, fw_ct_obj hko h1]) (fw_cl_get ci h1) j (by rw [fw_cl_n ci h1]; exact h2) (hts _ h4) (fun x hx => by rw [h3] at hx; exact hx) h5 h6 rfl rfl (by rw [fw_fs_len]; exact h2) hd (fun H1 locs1 hP1 hD1 hS1 => hnx _ _ _ h H1 locs1 la (by rw [fw_put ho hko h1 h2 hc] at hP1; exact hP1) hS1 hl)
    · rename_i ci j x a r hf _
      cases hc : Nat.beq (fw_fc ci j) 1 with
      | false => rw [hc] at h; exact h.elim
      | true =>
        rw [hc] at h
        have hc := Nat.eq_of_beq_eq_true hc
        obtain ⟨hkd, h9⟩ := h
        obtain ⟨h1, h2, h3, h4⟩ := hfld _ (fw_find_mem hf)
        dsimp only at h1 h2 h3 h4
        obtain ⟨o, ho, rfl, hko⟩ := fw_kd_at hkd (by omega)
        obtain ⟨e1, e2, h5, h6⟩ := fw_c1 ci h1 j h2 hc
        subst e1
        subst e2
        intro H locs la hP hS hl
        exact va_put (D := g.1) (cl := vwCl) (tys := fw_tys g) (A := fun q => B ≤ q) (H0 := s.heap) (C := (fw_cl 6).1) (T := (fw_cl 6).2.1) (N := (fw_cl 6).2.2) (ref := (fw_cl 6).1) (ci := 6) (v := .long x) hx hb hts (fw_cl_w 6 h1) (fw_ty 6) (fw_ty_ok 6 h1) (fw_nm_ok 6 h1) hown hK hP fw_WL_D hS o (by rw [fw_WL_get ho, fw_ct_obj hko h1]) (fw_cl_get 6 h1) 10 (by rw [fw_cl_n 6 h1]; exact h2) (hts _ h4) (fun x hx => by rw [h3] at hx; exact hx) h5 h6 rfl rfl (by rw [fw_fs_len]; exact h2) hd (fun H1 locs1 hP1 hD1 hS1 => hnx _ _ _ h9 H1 locs1 la (by rw [fw_putl ho hko] at hP1; exact hP1) hS1 hl)
    · exact h.elim
  | iaload =>
    have ht : Nat.beq len 1 = true := ht
    have hl9 := Nat.eq_of_beq_eq_true ht
    subst hl9
    obtain ⟨a, i, r, rfl, h⟩ := fw_ri_e h
    have h : fw_iald B scr a i M (fun x => nx ls (.int x :: r) M) := h
    unfold fw_iald at h
    split at h
    · obtain ⟨hkd, hin, h⟩ := h
      obtain ⟨o, ho, rfl, hko⟩ := fw_kd_at hkd (by omega)
      have hin : vp_in i (fw_lo o) := by rw [show fw_lo o = fw_len B (B + o) from by unfold fw_len; rw [Nat.add_sub_cancel_left]]; exact fw_sd_e hin
      intro H locs la hP hS hl
      exact va_iald (D := g.1) (cl := vwCl) (tys := fw_tys g) hx hb hK hP o 0 (by rw [fw_WL_get ho, fw_ct_7 hko]) rfl hin hd (hnx _ _ _ h H locs la hP hS hl)
    · rename_i b L xs
      obtain ⟨rfl, hin, h⟩ := h
      obtain ⟨k1, k2, k3⟩ := hscr
      intro H locs la hP hS hl
      exact va_sld (A := fun q => B ≤ q) hx hb k1 k2 k3 hS (fw_sd_e hin) hd (hnx _ _ _ h H locs la hP hS hl)
  | iastore =>
    have ht : Nat.beq len 1 = true := ht
    have hl9 := Nat.eq_of_beq_eq_true ht
    subst hl9
    obtain ⟨a, i, x, r, rfl, hkd, hin, h⟩ := fw_rii_e h
    obtain ⟨o, ho, rfl, hko⟩ := fw_kd_at hkd (by omega)
    have hin : vp_in i (fw_lo o) := by rw [show fw_lo o = fw_len B (B + o) from by unfold fw_len; rw [Nat.add_sub_cancel_left]]; exact fw_sd_e hin
    intro H locs la hP hS hl
    exact va_iast (D := g.1) (cl := vwCl) (tys := fw_tys g) (A := fun q => B ≤ q) (H0 := s.heap) hx hb hK hP fw_WL_D hS o 0 (by rw [fw_WL_get ho, fw_ct_7 hko]) rfl hin hd (fun H1 locs1 hP1 hD1 hS1 => hnx _ _ _ h H1 locs1 la (by rw [fw_ast ho hko] at hP1; exact hP1) hS1 hl)
  | laload =>
    have ht : Nat.beq len 1 = true := ht
    have hl9 := Nat.eq_of_beq_eq_true ht
    subst hl9
    obtain ⟨a, i, r, rfl, hkd, hi, h2⟩ := fw_ri_e h
    obtain ⟨o, ho, rfl, hko⟩ := fw_kd_at hkd (by omega)
    subst hi
    intro H locs la hP hS hl
    exact va_lald (D := g.1) (cl := vwCl) (tys := fw_tys g) (f := fun j => M.2.1 (1 + j)) hx hb hK hP o 4 (by rw [fw_WL_get ho, fw_ct_11 hko]) rfl (by unfold vp_in; decide) hd (hnx _ _ _ h2 H locs la hP hS hl)
  | lastore =>
    have ht : Nat.beq len 1 = true := ht
    have hl9 := Nat.eq_of_beq_eq_true ht
    subst hl9
    obtain ⟨a, i, x, r, rfl, hkd, hi, h2⟩ := fw_ril_e h
    obtain ⟨o, ho, rfl, hko⟩ := fw_kd_at hkd (by omega)
    subst hi
    intro H locs la hP hS hl
    exact va_last (D := g.1) (cl := vwCl) (tys := fw_tys g) (A := fun q => B ≤ q) (H0 := s.heap) (f := fun j => M.2.1 (1 + j)) hx hb hK hP fw_WL_D hS o 4 (by rw [fw_WL_get ho, fw_ct_11 hko]) rfl (by unfold vp_in; decide) hd (fun H1 locs1 hP1 hD1 hS1 => hnx _ _ _ h2 H1 locs1 la (by rw [show (0 : Int32).toNatClampNeg = 0 from rfl, fw_lastl ho hko] at hP1; exact hP1) hS1 hl)
  | aaload =>
    have ht : Nat.beq len 1 = true := ht
    have hl9 := Nat.eq_of_beq_eq_true ht
    subst hl9
    obtain ⟨a, i, r, rfl, k1, k2, hin, h⟩ := fw_ri_e h
    rcases (show fw_kd B a = 8 ∨ fw_kd B a = 9 ∨ fw_kd B a = 10 by omega) with hkd | hkd | hkd
    · obtain ⟨o, ho, rfl, hko⟩ := fw_kd_at hkd (by omega)
      rw [hkd] at hin h
      intro H locs la hP hS hl
      exact va_aldq (D := g.1) (cl := vwCl) (tys := fw_tys g) (n := 6) (f := fun j => some (fw_el 8 (B + o) j)) hx hb hK hP o 1 (by rw [fw_WL_get ho, fw_ct_8 hko]) rfl (fw_sd_e hin) hd (hnx _ _ _ h H locs la hP hS hl)
    · obtain ⟨o, ho, rfl, hko⟩ := fw_kd_at hkd (by omega)
      rw [hkd] at hin h
      intro H locs la hP hS hl
      exact va_aldq (D := g.1) (cl := vwCl) (tys := fw_tys g) (n := 4) (f := fun j => some (fw_el 9 (B + o) j)) hx hb hK hP o 2 (by rw [fw_WL_get ho, fw_ct_9 hko]) rfl (fw_sd_e hin) hd (hnx _ _ _ h H locs la hP hS hl)
    · obtain ⟨o, ho, rfl, hko⟩ := fw_kd_at hkd (by omega)
      rw [hkd] at hin h
      intro H locs la hP hS hl
      exact va_aldq (D := g.1) (cl := vwCl) (tys := fw_tys g) (n := 24) (f := fun j => some (fw_el 10 (B + o) j)) hx hb hK hP o 3 (by rw [fw_WL_get ho, fw_ct_10 hko]) rfl (fw_sd_e hin) hd (hnx _ _ _ h H locs la hP hS hl)
  | arraylength =>
    have ht : Nat.beq len 1 = true := ht
    have hl9 := Nat.eq_of_beq_eq_true ht
    subst hl9
    obtain ⟨a, r, rfl, h⟩ := fw_r_e h
    have h : fw_alen B scr a (fun x => nx ls (.int x :: r) M) := h
    unfold fw_alen at h
    split at h
    · obtain ⟨k1, k2, h⟩ := h
      rcases (show fw_kd B a = 7 ∨ fw_kd B a = 8 ∨ fw_kd B a = 9 ∨ fw_kd B a = 10 by omega) with hkd | hkd | hkd | hkd
      · obtain ⟨o, ho, rfl, hko⟩ := fw_kd_at hkd (by omega)
        have hn : fw_aln B (B + o) = fw_lo o := by unfold fw_aln; rw [hkd]; rw [if_pos rfl]; unfold fw_len; rw [Nat.add_sub_cancel_left]
        rw [hn] at h
        intro H locs la hP hS hl
        exact va_alen (D := g.1) (cl := vwCl) (tys := fw_tys g) hx hb hK hP o 0 (by rw [fw_WL_get ho, fw_ct_7 hko]) rfl rfl hd (hnx _ _ _ h H locs la hP hS hl)
      · obtain ⟨o, ho, rfl, hko⟩ := fw_kd_at hkd (by omega)
        have hn : fw_aln B (B + o) = fw_al 8 := by unfold fw_aln; rw [hkd]; rw [if_neg (by decide)]
        rw [hn] at h
        intro H locs la hP hS hl
        exact va_alen (D := g.1) (cl := vwCl) (tys := fw_tys g) hx hb hK hP o 1 (by rw [fw_WL_get ho, fw_ct_8 hko]) rfl rfl hd (hnx _ _ _ h H locs la hP hS hl)
      · obtain ⟨o, ho, rfl, hko⟩ := fw_kd_at hkd (by omega)
        have hn : fw_aln B (B + o) = fw_al 9 := by unfold fw_aln; rw [hkd]; rw [if_neg (by decide)]
        rw [hn] at h
        intro H locs la hP hS hl
        exact va_alen (D := g.1) (cl := vwCl) (tys := fw_tys g) hx hb hK hP o 2 (by rw [fw_WL_get ho, fw_ct_9 hko]) rfl rfl hd (hnx _ _ _ h H locs la hP hS hl)
      · obtain ⟨o, ho, rfl, hko⟩ := fw_kd_at hkd (by omega)
        have hn : fw_aln B (B + o) = fw_al 10 := by unfold fw_aln; rw [hkd]; rw [if_neg (by decide)]
        rw [hn] at h
        intro H locs la hP hS hl
        exact va_alen (D := g.1) (cl := vwCl) (tys := fw_tys g) hx hb hK hP o 3 (by rw [fw_WL_get ho, fw_ct_10 hko]) rfl rfl hd (hnx _ _ _ h H locs la hP hS hl)
    · rename_i b L xs
      obtain ⟨rfl, h⟩ := h
      obtain ⟨k1, k2, k3⟩ := hscr
      intro H locs la hP hS hl
      exact va_slen (A := fun q => B ≤ q) hx hb k1 k2 k3 hS hd (hnx _ _ _ h H locs la hP hS hl)
  | invokevirtual k =>
    have ht : Nat.beq len 3 = true := ht
    have hl9 := Nat.eq_of_beq_eq_true ht
    subst hl9
    have h : fw_call B 0 (fw_findC k cal) st M (fun r M' => nx ls r M') := h
    cases hf : fw_findC k cal with
    | none => rw [hf] at h; exact h.elim
    | some q => rw [hf] at h; exact fw_call_ok (hcal _ (fw_findC_mem hf)) (Or.inl ⟨rfl, hd⟩) (fun st M hq => hnx _ _ _ hq) h
  | invokestatic k =>
    have ht : Nat.beq len 3 = true := ht
    have hl9 := Nat.eq_of_beq_eq_true ht
    subst hl9
    have h : fw_call B 1 (fw_findC k cal) st M (fun r M' => nx ls r M') := h
    cases hf : fw_findC k cal with
    | none => rw [hf] at h; exact h.elim
    | some q => rw [hf] at h; exact fw_call_ok (hcal _ (fw_findC_mem hf)) (Or.inr ⟨rfl, hd⟩) (fun st M hq => hnx _ _ _ hq) h
  | new k =>
    have ht : Nat.beq len 3 = true := ht
    have hl9 := Nat.eq_of_beq_eq_true ht
    subst hl9
    have h : fw_newx QX (fw_find k thr) st M := h
    unfold fw_newx at h
    split at h
    · rename_i E hf _
      exact hthr _ (fw_find_mem hf) _ _ _ hd hnw h
    · exact h.elim
  | ireturn =>
    have ht : Nat.beq len 1 = true := ht
    have hl9 := Nat.eq_of_beq_eq_true ht
    subst hl9
    exact (hret _ _ _ _).1 hd h
  | areturn =>
    have ht : Nat.beq len 1 = true := ht
    have hl9 := Nat.eq_of_beq_eq_true ht
    subst hl9
    exact (hret _ _ _ _).2.1 hd h
  | lreturn =>
    have ht : Nat.beq len 1 = true := ht
    have hl9 := Nat.eq_of_beq_eq_true ht
    subst hl9
    exact (hret _ _ _ _).2.2.1 hd h
  | dreturn =>
    have ht : Nat.beq len 1 = true := ht
    have hl9 := Nat.eq_of_beq_eq_true ht
    subst hl9
    exact (hret _ _ _ _).2.2.2.1 hd h
  | return_ =>
    have ht : Nat.beq len 1 = true := ht
    have hl9 := Nat.eq_of_beq_eq_true ht
    subst hl9
    exact (hret _ _ _ _).2.2.2.2 hd h
  | _ => exact False.elim h
end SW
end
section
/-! CONTRACTS out of the walker: stretches, loops, a whole body, the calls -/
section ME
/-- words beside the tables' good ones: links between nest mates, and of the exceptions that are thrown -/
def fw_xw : List Cond := fw_nest.map (fun q => Cond.methodLinkNest q.1 q.2.1 q.2.2.1 q.2.2.2) ++ [.declares (Bundle.init0 "java/lang/RuntimeException"), .declares (Bundle.init0 "java/lang/Exception"), .declares (Bundle.init0 Bundle.tN), .castable "java/lang/IllegalArgumentException" "java/lang/IllegalArgumentException", .castable "java/lang/IllegalStateException" "java/lang/IllegalStateException", .castable "java/lang/IndexOutOfBoundsException" "java/lang/IndexOutOfBoundsException"]
theorem fw_xw_tab {w : Cond} (h : w ∈ fw_xw) : w.onTables = true := by
  rcases List.mem_append.mp h with h | h
  · obtain ⟨q, -, rfl⟩ := List.mem_map.mp h
    rfl
  · revert w
    decide
theorem fw_xw_warm {w : Cond} (h : w ∈ fw_xw) {s U : State} (hW : s.WarmedH U.vm) (hZ : va_Nw w s) : va_Nw w U := by
  rcases List.mem_append.mp h with h | h
  · obtain ⟨q, -, rfl⟩ := List.mem_map.mp h
    exact va_Nw.warmM hW hZ
  · simp only [List.mem_cons, List.not_mem_nil, or_false] at h
    rcases h with rfl | rfl | rfl | rfl | rfl | rfl
    · exact va_Nw.warmD hW hZ
    · exact va_Nw.warmD hW hZ
    · exact va_Nw.warmD hW hZ
    · exact va_Nw.warmC hW hZ
    · exact va_Nw.warmC hW hZ
    · exact va_Nw.warmC hW hZ
/-- what holds of a state beside the cells: the classes, the words, where the two statics of Throwable lie -/
def fw_Amb (g : fw_G) (B : Nat) (U : State) (H : Heap) : Prop := va_K g.1 vwCl (fw_tys g) U ∧ (∀ w ∈ fw_xw, va_Nw w U) ∧ vx_Zq Bundle.tN "UNASSIGNED_STACK" Bundle.steD (fun q => B ≤ q) U H ∧ vx_Zq Bundle.tN "SUPPRESSED_SENTINEL" Bundle.listD (fun q => B ≤ q) U H
def fw_Pic (g : fw_G) (B : Nat) (M : fw_M) (U : State) : Prop := va_P g.1 vwCl (fw_WL g B M) U.heap ∧ fw_Amb g B U U.heap
def fw_Pc (g : fw_G) (B : Nat) (as : List Value) (M : fw_M) : Array Value → State → Prop := va_Pc as (fw_Pic g B M)
def fw_Qc (g : fw_G) (B : Nat) (Q : Option Value → fw_M → Prop) : Array Value → State → Outcome → State → Prop := fun _ st oc t => (∃ (r : Option Value) (M : fw_M), oc = .returned r ∧ Q r M ∧ va_P g.1 vwCl (fw_WL g B M) t.heap) ∧ va_F (fun q => B ≤ q) st t
def fw_XC (g : fw_G) (B : Nat) (QX : String → fw_M → Prop) : String → State → State → Prop := fun E st t => (∃ M : fw_M, QX E M ∧ va_P g.1 vwCl (fw_WL g B M) t.heap) ∧ va_F (fun q => B ≤ q) st t
abbrev fw_CTX : Type := List Value → fw_M → (Option Value → fw_M → Prop) → (String → fw_M → Prop) → Prop
abbrev fw_ws (y : MethodName) (cc : ByteArray) (nL : Nat) (rt : Option FieldType) : List Cond := Cond.code y cc nL rt :: fw_LW
/-- a method's contract: from every memory and arguments for which ct asks Q (or a throw, QX), it ends with Q (or throws, with QX) -/
def fw_Met (l : Launch) (g : fw_G) (B : Nat) (y : MethodName) (cc : ByteArray) (nL : Nat) (rt : Option FieldType) (rm : Room) (mc ms : Nat) (ct : fw_CTX) : Prop :=
  ∀ as M Q QX, ct as M Q QX → vx_Met l y (fw_ws y cc nL rt) rm (fw_Pc g B as M) (fw_Qc g B Q) (fw_XC g B QX) mc ms (fun q => B ≤ q)
theorem fw_Amb.warm {g : fw_G} {B : Nat} {s U : State} {H H1 : Heap} (h : fw_Amb g B s H) (hW : s.WarmedH U.vm) (hS : ∀ a : Nat, a < H.size → ¬ B ≤ a → H1[a]? = H[a]?) : fw_Amb g B U H1 :=
  ⟨va_K.moved hW.alike h.1, fun w hw => fw_xw_warm hw hW (h.2.1 w hw), vx_Zq.kept (vx_Zq.moved hW.alike h.2.2.1) hS, vx_Zq.kept (vx_Zq.moved hW.alike h.2.2.2) hS⟩
theorem fw_Pc_blind {g : fw_G} {B : Nat} {as : List Value} {M : fw_M} : FrameBlind (fw_Pc g B as M) := by
  intro a U gg mk h
  obtain ⟨h1, h2, h3, h4, h5, h6⟩ := h
  exact ⟨h1, h2, va_K.moved (u := U) (U := U.calling gg mk a) (Vm.Alike.refl U.vm) h3, fun w hw => va_Nw.same (u := U) (U := U.calling gg mk a) (fw_xw_tab hw) rfl (h4 w hw), vx_Zq.moved (u := U) (U := U.calling gg mk a) (Vm.Alike.refl U.vm) h5, vx_Zq.moved (u := U) (U := U.calling gg mk a) (Vm.Alike.refl U.vm) h6⟩
section BD
variable {p : Program} {l : Launch} {e : Env} {R : Room} {s : State} {m : MethodId} {args : Array Value} {below : List Frame} {meth : Method} {c : Code} {Qs : State → Prop} {cc : ByteArray} {nL B : Nat} {g : fw_G} {cf sf : Nat → Nat} {own : String}
variable {fld : List (Nat × Nat × Nat)} {cal : List fw_Cal} {thr : List (Nat × String)} {cst : List (Nat × Value)} {scr : Option (Nat × Nat × (Nat → Int32))} {rt : Option FieldType} {Q : Option Value → fw_M → Prop} {QX : String → fw_M → Prop} {code : List fw_Ent}
def fw_chain : List fw_Ent → Bool
  | a :: b :: t => Nat.beq b.1 (a.1 + a.2.1) && fw_chain (b :: t)
  | _ => true
def fw_newq (cc : ByteArray) (en : fw_Ent) : Bool := match en.2.2.1 with
  | .new k => decide (decode cc (en.1 + 3) = .ok (.dup, 1)) && decide (decode cc (en.1 + 4) = .ok (.invokespecial (k + 2), 3)) && decide (decode cc (en.1 + 7) = .ok (.athrow, 1))
  | _ => true
def fw_chk (cc : ByteArray) (nL : Nat) (code : List fw_Ent) : Bool := code.all (fun en => decide (decode cc en.1 = .ok (en.2.2.1, en.2.1)) && fw_lt nL en && fw_newq cc en) && fw_chain code
theorem fw_chain_next {a b : fw_Ent} {t pre : List fw_Ent} : ∀ {L : List fw_Ent}, fw_chain L = true → L = pre ++ a :: b :: t → b.1 = a.1 + a.2.1 := by
  induction pre with
  | nil =>
    intro L h e
    subst e
    exact Nat.eq_of_beq_eq_true (fw_and2 h).1
  | cons x pre ih =>
    intro L h e
    subst e
    refine ih (L := pre ++ a :: b :: t) ?_ rfl
    cases pre with
    | nil => exact (fw_and2 h).2
    | cons y pre => exact (fw_and2 h).2
theorem fw_newq_ok {en : fw_Ent} (h : fw_newq cc en = true) : fw_NewOK cc en := by
  obtain ⟨pc, len, i, num, tgt⟩ := en
  unfold fw_NewOK
  dsimp only
  cases i with
  | new k =>
    obtain ⟨h, h3⟩ := fw_and2 h
    obtain ⟨h1, h2⟩ := fw_and2 h
    exact ⟨of_decide_eq_true h1, of_decide_eq_true h2, of_decide_eq_true h3⟩
  | _ => trivial
theorem fw_seek_suf {t : Nat} : ∀ (code : List fw_Ent), ∃ pre, code = pre ++ fw_seek t code := by
  intro code
  induction code with
  | nil => exact ⟨[], rfl⟩
  | cons en r ih =>
    unfold fw_seek
    cases hb : Nat.beq en.1 t with
    | true => exact ⟨[], rfl⟩
    | false =>
      obtain ⟨pre, h⟩ := ih
      exact ⟨en :: pre, by show en :: r = en :: (pre ++ fw_seek t r); rw [← h]⟩
theorem fw_seek_pc {t : Nat} {en : fw_Ent} {r : List fw_Ent} : ∀ {code : List fw_Ent}, fw_seek t code = en :: r → en.1 = t := by
  intro code
  induction code with
  | nil => intro h; cases h
  | cons x r' ih =>
    intro h
    unfold fw_seek at h
    cases hb : Nat.beq x.1 t with
    | true =>
      rw [hb] at h
      have h : x :: r' = en :: r := h
      cases h
      exact Nat.eq_of_beq_eq_true hb
    | false =>
      rw [hb] at h
      exact ih h
theorem fw_wp_sound (E : fw_Env p s m args c cc nL g own) (hchk : fw_chk cc nL code = true) (hcst : ∀ en ∈ code, fw_CstOK own cst en) (hfld : fw_Fld own fld) (hscr : fw_ScrOK s B scr)
    (hcal : ∀ q ∈ cal, fw_CallOK p l e R s m args below meth c cc nL B g cf sf Qs q) (hthr : ∀ q ∈ thr, fw_ThrOK p l e R s m args below meth c cc nL B g cf sf Qs QX q) (hret : fw_RetOK p l e R s m args below meth c cc nL B g cf sf Qs rt Q)
    (K : fw_K) (hK : ∀ pc q, K pc = some q → ∀ ls st M, q.2 ls st M → fw_WW p l e R s m args below meth c nL B g cf sf Qs pc ls st M) :
    ∀ (n : Nat) (b : Bool) (pre tl : List fw_Ent) (en : fw_Ent), code = pre ++ en :: tl → ∀ (ls : fw_L) (st : List Value) (M : fw_M), fw_wp B fld cal thr cst scr rt Q QX code K n b (en :: tl) ls st M → fw_WW p l e R s m args below meth c nL B g cf sf Qs en.1 ls st M := by
  obtain ⟨hall, hch⟩ := fw_and2 hchk
  intro n
  induction n with
  | zero => intro b pre tl en hc ls st M h; exact h.elim
  | succ n ih =>
    intro b pre tl en hc ls st M h
    have hm : en ∈ code := by rw [hc]; exact List.mem_append_right _ List.mem_cons_self
    obtain ⟨h12, h3⟩ := fw_and2 (List.all_eq_true.mp hall en hm)
    obtain ⟨h1, h2⟩ := fw_and2 h12
    have main : fw_stp B fld cal thr cst scr rt Q QX en ls st M (fun ls st M => fw_wp B fld cal thr cst scr rt Q QX code K n false tl ls st M) (fun t ls st M => fw_wp B fld cal thr cst scr rt Q QX code K n false (fw_seek t code) ls st M) → fw_WW p l e R s m args below meth c nL B g cf sf Qs en.1 ls st M := by
      intro h
      refine fw_stp_sound E (of_decide_eq_true h1) h2 hfld (hcst en hm) (fw_newq_ok h3) hscr hcal hthr hret ?_ ?_ h
      · intro ls st M h
        cases tl with
        | nil => cases n <;> exact h.elim
        | cons en2 tl2 =>
          have e2 := fw_chain_next hch hc
          rw [← e2]
          exact ih false (pre ++ [en]) tl2 en2 (by rw [hc]; simp) ls st M h
      · intro t ls st M h
        obtain ⟨pre2, hp2⟩ := fw_seek_suf (t := t) code
        cases hs : fw_seek t code with
        | nil =>
          have h : fw_wp B fld cal thr cst scr rt Q QX code K n false (fw_seek t code) ls st M := h
          rw [hs] at h
          cases n <;> exact h.elim
        | cons en2 tl2 =>
          have h : fw_wp B fld cal thr cst scr rt Q QX code K n false (fw_seek t code) ls st M := h
          rw [hs] at h hp2
          rw [← fw_seek_pc hs]
          exact ih false pre2 tl2 en2 hp2 ls st M h
    unfold fw_wp at h
    cases b with
    | true => exact main h
    | false =>
      cases hk : K en.1 with
      | none =>
        rw [hk] at h
        exact main h
      | some q =>
        rw [hk] at h
        have h : q.2 (fw_mk q.1 ls) st M := h
        intro H locs la hP hS hl
        exact hK en.1 q hk _ _ _ h H locs la hP hS (fw_lr_mk hl q.1)
/-- the places where a loop comes back, each with which locals live there and what holds there, by a measure that falls -/
abbrev fw_AL : Type := List (Nat × List Bool × (Nat → fw_L → List Value → fw_M → Prop))
def fw_Kn (A : fw_AL) (n : Nat) : fw_K := fun pc => match fw_find pc A with
  | none => none
  | some q => some (q.1, fun ls st M => ∃ n', n' < n ∧ q.2 n' ls st M)
def fw_Ka (A : fw_AL) : fw_K := fun pc => match fw_find pc A with
  | none => none
  | some q => some (q.1, fun ls st M => ∃ n', q.2 n' ls st M)
theorem fw_body (E : fw_Env p s m args c cc nL g own) (hchk : fw_chk cc nL code = true) (hcst : ∀ en ∈ code, fw_CstOK own cst en) (hfld : fw_Fld own fld) (hscr : fw_ScrOK s B scr)
    (hcal : ∀ q ∈ cal, fw_CallOK p l e R s m args below meth c cc nL B g cf sf Qs q) (hthr : ∀ q ∈ thr, fw_ThrOK p l e R s m args below meth c cc nL B g cf sf Qs QX q) (hret : fw_RetOK p l e R s m args below meth c cc nL B g cf sf Qs rt Q)
    (A : fw_AL) (hA : ∀ q ∈ A, ∀ n ls st M, q.2.2 n ls st M → ∃ F, fw_wp B fld cal thr cst scr rt Q QX code (fw_Kn A n) F true (fw_seek q.1 code) ls st M)
    {t : Nat} {F : Nat} {ls : fw_L} {st : List Value} {M : fw_M} (h : fw_wp B fld cal thr cst scr rt Q QX code (fw_Ka A) F true (fw_seek t code) ls st M) : fw_WW p l e R s m args below meth c nL B g cf sf Qs t ls st M := by
  have start : ∀ (K : fw_K) (hK : ∀ pc q, K pc = some q → ∀ ls st M, q.2 ls st M → fw_WW p l e R s m args below meth c nL B g cf sf Qs pc ls st M) (t F : Nat) (ls : fw_L) (st : List Value) (M : fw_M), fw_wp B fld cal thr cst scr rt Q QX code K F true (fw_seek t code) ls st M → fw_WW p l e R s m args below meth c nL B g cf sf Qs t ls st M := by
    intro K hK t F ls st M h
    obtain ⟨pre2, hp2⟩ := fw_seek_suf (t := t) code
    cases hs : fw_seek t code with
    | nil => rw [hs] at h; cases F <;> exact h.elim
    | cons en2 tl2 =>
      rw [hs] at h hp2
      rw [← fw_seek_pc hs]
      exact fw_wp_sound E hchk hcst hfld hscr hcal hthr hret K hK F true pre2 tl2 en2 hp2 ls st M h
  have loop : ∀ n, ∀ q ∈ A, ∀ ls st M, q.2.2 n ls st M → fw_WW p l e R s m args below meth c nL B g cf sf Qs q.1 ls st M := by
    intro n
    induction n using Nat.strongRecOn with
    | _ n ih =>
      intro q hq ls st M hi
      obtain ⟨F, hw⟩ := hA q hq n ls st M hi
      refine start (fw_Kn A n) ?_ q.1 F ls st M hw
      intro pc q2 hk ls st M h
      unfold fw_Kn at hk
      cases hf : fw_find pc A with
      | none => rw [hf] at hk; cases hk
      | some q3 =>
        rw [hf] at hk
        cases hk
        obtain ⟨n', hn, h⟩ := h
        exact ih n' hn (pc, q3) (fw_find_mem hf) ls st M h
  refine start (fw_Ka A) ?_ t F ls st M h
  intro pc q2 hk ls st M h
  unfold fw_Ka at hk
  cases hf : fw_find pc A with
  | none => rw [hf] at hk; cases hk
  | some q3 =>
    rw [hf] at hk
    cases hk
    obtain ⟨n', h⟩ := h
    exact loop n' (pc, q3) (fw_find_mem hf) ls st M h
end BD
end ME
end
section
/-! ===== BEGIN a private method of a nest mate that may throw (follows va_callVN, va_callSN, va_runVN, va_runSN) ===== -/
section
variable {p : Program} {l : Launch} {e : Env} {R : Room} {s : State} {m : MethodId} {args : Array Value} {below : List Frame} {meth : Method} {c : Code} {H : Heap} {locs : List Loc} {cells slots : Nat}
variable {T : State}
theorem vx_callVN (X : Stand p l e R s m args below meth c T locs cells slots) (hexec : p.tables.exec = Jvm.exec) {own C : String} {index : Nat} {host : String} {y : MethodName} {bytes : ByteArray} {maxL : Nat} {ret : Option FieldType}
    (hown : s.vm.findClass own = some m.cls) (hlink : (Cond.methodLinkNest own index y host).before args s = true) (hinst : (Cond.instanceMethod y).before args s = true) (hsel : (Cond.selects C y y).before args s = true)
    (hcode : (Cond.code y bytes maxL ret).before args s = true) (hy : y.cls ≠ "java/lang/invoke/MethodHandle" ∧ y.cls ≠ "java/lang/invoke/VarHandle")
    {W : Nat} {Pre : Pt → Array Value → Prop} {Post : Pt → Array Value → Option Value → Pt → Prop} {PostX : Pt → Array Value → Addr → Pt → Prop} (hK : vx_Back l R p e below s args y 3 W Pre Post PostX)
    {b : Addr} {cellB : Cell} (hcell : T.heap[b]? = some cellB) (hobj : cellB.vm.isStatics = false) (hcls : s.vm.findClass C = some cellB.cls)
    {g : JFrame} (hg : g.method = m) (hsize : g.locals.size = c.maxLocals) {argsL rest : List Value} (hlen : ∀ sig, parseMethodDescriptor y.desc = some sig → argsL.length = sig.parameters.length)
    (hstack : g.stack = argsL.reverse ++ .ref b :: rest) (hW : 2 * g.monitorRoom + (rest.map fun v => v.category).sum ≤ W) (hdg : decode c.code g.pc = .ok (.invokevirtual index, 3))
    (hpre : ∀ vm₁, s.WarmedH vm₁ → Pre ⟨T.setVm vm₁, locs, cells, slots⟩ (Value.ref b :: argsL).toArray) :
    (∃ (v : Option Value) (vm₁ : Vm) (B : Pt), s.WarmedH vm₁ ∧ Stand p l e R s m args below meth c B.U B.locs B.cells B.slots ∧ Post ⟨T.setVm vm₁, locs, cells, slots⟩ (Value.ref b :: argsL).toArray v B ∧
      ∀ target, Steps p.tables e below (B.U.setTop { g with pc := g.pc + 3, stack := v.toList ++ rest }) target → Steps p.tables e below (T.setTop g) target) ∨
    (∃ (q : Addr) (vm₁ : Vm) (B : Pt), s.WarmedH vm₁ ∧ Stand p l e R s m args below meth c B.U B.locs B.cells B.slots ∧ PostX ⟨T.setVm vm₁, locs, cells, slots⟩ (Value.ref b :: argsL).toArray q B ∧
      Steps p.tables e below (T.setTop g) ((B.U.setTop { g with stack := rest }).pushFrame (.throwing q))) := by
  obtain ⟨mk, methM, hnamed, hmethM, hstM, habM⟩ := Cond.instanceMethod_spec hinst
  obtain ⟨methM', cM, hmethM', -, -, -, -, -, -, hsigM⟩ := Cond.code_spec hnamed hcode
  cases hmethM.symm.trans hmethM'
  obtain ⟨c2, r2, m2, q1, q2, q3, q4, kP, hkP, hkPi⟩ := Cond.selects_spec hsel
  cases hcls.symm.trans q1
  cases (State.methodFound?_of_named hnamed hy).symm.trans q2
  cases hnamed.symm.trans q3
  have hselP : selectMethod e.platform s.vm cellB.cls mk = .method mk := by rw [Launch.admits_selectMethod X.admits]; exact q4
  obtain ⟨vm₁, X₁, hstep₁⟩ := X.invokevirtualNest hexec hown hlink hnamed hmethM hstM hkP hkPi hy (a := b) (cell := cellB) hcell
    (fun z h => by rw [h] at hobj; cases hobj) hselP hmethM habM hkP hkPi (g := g) hg (argsL := argsL) (rest := rest) (hlen _ hsigM) hstack hdg
  rcases hK m meth c ⟨T.setVm vm₁, locs, cells, slots⟩ { g with stack := rest } (.invokevirtual index) mk (Value.ref b :: argsL).toArray X₁ hg hsize hdg hW (X₁.named hnamed) (hpre vm₁ X₁.warmed) with ⟨v, B, X', hpost, hsteps⟩ | ⟨q, B, X', hpost, hsteps⟩
  · exact Or.inl ⟨v, vm₁, B, X₁.warmed, X', hpost, fun target h => hstep₁ _ fun acts => by rw [doInvoke_state]; exact hsteps.trans h⟩
  · exact Or.inr ⟨q, vm₁, B, X₁.warmed, X', hpost, hstep₁ _ fun acts => by rw [doInvoke_state]; exact hsteps⟩
theorem vx_callSN (X : Stand p l e R s m args below meth c T locs cells slots) (hexec : p.tables.exec = Jvm.exec) {own : String} {index : Nat} {host : String} {y : MethodName} {bytes : ByteArray} {maxL : Nat} {ret : Option FieldType}
    (hown : s.vm.findClass own = some m.cls) (hlink : (Cond.methodLinkNest own index y host).before args s = true) (hstat : (Cond.static y).before args s = true) (hinit : (Cond.initialized y.cls).before args s = true)
    (hcode : (Cond.code y bytes maxL ret).before args s = true) (hy : y.cls ≠ "java/lang/invoke/MethodHandle" ∧ y.cls ≠ "java/lang/invoke/VarHandle")
    {W : Nat} {Pre : Pt → Array Value → Prop} {Post : Pt → Array Value → Option Value → Pt → Prop} {PostX : Pt → Array Value → Addr → Pt → Prop} (hK : vx_Back l R p e below s args y 3 W Pre Post PostX)
    {g : JFrame} (hg : g.method = m) (hsize : g.locals.size = c.maxLocals) {argsL rest : List Value} (hlen : ∀ sig, parseMethodDescriptor y.desc = some sig → argsL.length = sig.parameters.length)
    (hstack : g.stack = argsL.reverse ++ rest) (hW : 2 * g.monitorRoom + (rest.map fun v => v.category).sum ≤ W) (hdg : decode c.code g.pc = .ok (.invokestatic index, 3))
    (hpre : ∀ vm₁, s.WarmedH vm₁ → Pre ⟨T.setVm vm₁, locs, cells, slots⟩ argsL.toArray) :
    (∃ (v : Option Value) (vm₁ : Vm) (B : Pt), s.WarmedH vm₁ ∧ Stand p l e R s m args below meth c B.U B.locs B.cells B.slots ∧ Post ⟨T.setVm vm₁, locs, cells, slots⟩ argsL.toArray v B ∧
      ∀ target, Steps p.tables e below (B.U.setTop { g with pc := g.pc + 3, stack := v.toList ++ rest }) target → Steps p.tables e below (T.setTop g) target) ∨
    (∃ (q : Addr) (vm₁ : Vm) (B : Pt), s.WarmedH vm₁ ∧ Stand p l e R s m args below meth c B.U B.locs B.cells B.slots ∧ PostX ⟨T.setVm vm₁, locs, cells, slots⟩ argsL.toArray q B ∧
      Steps p.tables e below (T.setTop g) ((B.U.setTop { g with stack := rest }).pushFrame (.throwing q))) := by
  obtain ⟨mk, hnamed⟩ := Cond.code_named hcode
  obtain ⟨methM, cM, hmethM, -, -, -, -, -, -, hsigM⟩ := Cond.code_spec hnamed hcode
  have hstatic : methM.isStatic = true := Cond.static_spec hnamed hmethM hstat
  obtain ⟨kP, hkP, -⟩ := className_of_methodNamed hnamed
  have hinitP : kP.init = .initialized := Cond.initialized_spec (findClass_of_methodNamed hnamed) hkP hinit
  obtain ⟨vm₁, X₁, hstep₁⟩ := X.invokestaticNest hexec hown hlink hnamed hmethM hstatic hkP hinitP hy (g := g) hg (argsL := argsL) (rest := rest) (hlen _ hsigM) hstack hdg
  rcases hK m meth c ⟨T.setVm vm₁, locs, cells, slots⟩ { g with stack := rest } (.invokestatic index) mk argsL.toArray X₁ hg hsize hdg hW (X₁.named hnamed) (hpre vm₁ X₁.warmed) with ⟨v, B, X', hpost, hsteps⟩ | ⟨q, B, X', hpost, hsteps⟩
  · exact Or.inl ⟨v, vm₁, B, X₁.warmed, X', hpost, fun target h => hstep₁ _ fun acts => by rw [doInvoke_state]; exact hsteps.trans h⟩
  · exact Or.inr ⟨q, vm₁, B, X₁.warmed, X', hpost, hstep₁ _ fun acts => by rw [doInvoke_state]; exact hsteps⟩
theorem vx_runVN {y : MethodName} {bytes cc : ByteArray} {maxL nL mc ms n index : Nat} {ret : Option FieldType} {ws : List Cond} {rm : Room} {Pc : Array Value → State → Prop} {Qc : Array Value → State → Outcome → State → Prop} {XC : String → State → State → Prop} {free : Addr → Prop} {Ts : List Cond} {own C host : String} {b : Addr} {As rest : List Value} {g : JFrame}
    (S : CallFix p m c cc nL s args Ts own) (hM : vx_Met l y ws rm Pc Qc XC mc ms free) (cw : va_CN R s args own index y host bytes maxL ret ws rm mc ms n ∧ (Cond.instanceMethod y).before args s = true ∧ (Cond.selects C y y).before args s = true) (hp : PreV s H C b Pc As)
    (hg : g.method = m) (hn : As.length = n) (hsize : g.locals.size = nL) (hstack : g.stack = As.reverse ++ .ref b :: rest) (hW : 2 * g.monitorRoom + (rest.map fun v => v.category).sum ≤ 8) (hdg : decode cc g.pc = .ok (.invokevirtual index, 3)) (hf : cells + mc ≤ R.cells ∧ slots + ms ≤ R.slots) :
    vx_Run p l e R s m args below meth c H locs cells slots mc ms g rest (Qc (Value.ref b :: As).toArray) XC free := by
  obtain ⟨⟨⟨hrc, hrs, hfr, hlo, hws, hcw⟩, hcode, hini, hy, hlen, hl⟩, hx1, hx2⟩ := cw
  have hK : vx_Back l R p e below s args y 3 8 (PreOf R mc ms Pc) (PostOf Qc mc ms free) (vx_Post XC mc ms free) := vx_back (bytes := bytes) (maxL := maxL) (ret := ret) hM hp.1 hrc hrs hfr hlo hws hcw (fun a' U hW => word_at hW (Or.inl (by first | rfl | simp [Cond.onTables, Cond.keeps, Cond.steady])) hini)
  obtain ⟨hx, hb, hml, ho, -⟩ := S
  obtain ⟨-, ⟨cellB, hcB, hoB, hclB⟩, hPc⟩ := hp
  intro T hT X
  rcases vx_callVN X hx (C := C) (bytes := bytes) (maxL := maxL) (ret := ret) ho hl hx1 hx2 hcode hy hK (by rw [hT]; exact hcB) hoB hclB hg (hsize.trans hml.symm) (argsL := As) (rest := rest) (fun sig h => hn.trans (hlen sig h)) hstack hW (by rw [hb]; exact hdg)
    (fun vm₁ hW₁ => ⟨hf.1, hf.2, hPc (T.setVm vm₁) hT hW₁⟩) with ⟨v, vm₁, ⟨U', l2, c2, s2⟩, hW₁, X', ⟨g', mk, t, L, e1, e2, hq, h1, hL, h2, h3⟩, st⟩ | ⟨q, vm₁, ⟨U', l2, c2, s2⟩, hW₁, X', ⟨g', mk, t, L, E, ce, e1, e2, hq, hce, hcv, hcl, h1, hL, h2, h3⟩, st⟩
  · dsimp only [Pt.U, Pt.locs, Pt.cells, Pt.slots] at X' e1 e2 h1 h2 h3 st
    subst h1; subst h2; subst h3
    exact Or.inl ⟨v, (T.setVm vm₁).calling g' mk (Value.ref b :: As).toArray, t, U', L, hT, X', hL, e1, e2, hq, st⟩
  · dsimp only [Pt.U, Pt.locs, Pt.cells, Pt.slots] at X' e1 e2 h1 h2 h3 st hcl
    subst h1; subst h2; subst h3
    exact Or.inr ⟨q, (T.setVm vm₁).calling g' mk (Value.ref b :: As).toArray, t, U', L, E, ce, hT, X', hL, e1, e2, hq, hce, hcv, vx_cls hW₁ hcl, st⟩
theorem vx_runSN {y : MethodName} {bytes cc : ByteArray} {maxL nL mc ms n index : Nat} {ret : Option FieldType} {ws : List Cond} {rm : Room} {Pc : Array Value → State → Prop} {Qc : Array Value → State → Outcome → State → Prop} {XC : String → State → State → Prop} {free : Addr → Prop} {Ts : List Cond} {own host : String} {As rest : List Value} {g : JFrame}
    (S : CallFix p m c cc nL s args Ts own) (hM : vx_Met l y ws rm Pc Qc XC mc ms free) (cw : va_CN R s args own index y host bytes maxL ret ws rm mc ms n ∧ (Cond.static y).before args s = true ∧ True) (hp : PreS s H Pc As)
    (hg : g.method = m) (hn : As.length = n) (hsize : g.locals.size = nL) (hstack : g.stack = As.reverse ++ rest) (hW : 2 * g.monitorRoom + (rest.map fun v => v.category).sum ≤ 8) (hdg : decode cc g.pc = .ok (.invokestatic index, 3)) (hf : cells + mc ≤ R.cells ∧ slots + ms ≤ R.slots) :
    vx_Run p l e R s m args below meth c H locs cells slots mc ms g rest (Qc As.toArray) XC free := by
  obtain ⟨⟨⟨hrc, hrs, hfr, hlo, hws, hcw⟩, hcode, hini, hy, hlen, hl⟩, hx1, hx2⟩ := cw
  have hK : vx_Back l R p e below s args y 3 8 (PreOf R mc ms Pc) (PostOf Qc mc ms free) (vx_Post XC mc ms free) := vx_back (bytes := bytes) (maxL := maxL) (ret := ret) hM hp.1 hrc hrs hfr hlo hws hcw (fun a' U hW => word_at hW (Or.inl (by first | rfl | simp [Cond.onTables, Cond.keeps, Cond.steady])) hini)
  obtain ⟨hx, hb, hml, ho, -⟩ := S
  have hPc := hp.2
  intro T hT X
  rcases vx_callSN X hx (bytes := bytes) (maxL := maxL) (ret := ret) ho hl hx1 hini hcode hy hK hg (hsize.trans hml.symm) (argsL := As) (rest := rest) (fun sig h => hn.trans (hlen sig h)) hstack hW (by rw [hb]; exact hdg)
    (fun vm₁ hW₁ => ⟨hf.1, hf.2, hPc (T.setVm vm₁) hT hW₁⟩) with ⟨v, vm₁, ⟨U', l2, c2, s2⟩, hW₁, X', ⟨g', mk, t, L, e1, e2, hq, h1, hL, h2, h3⟩, st⟩ | ⟨q, vm₁, ⟨U', l2, c2, s2⟩, hW₁, X', ⟨g', mk, t, L, E, ce, e1, e2, hq, hce, hcv, hcl, h1, hL, h2, h3⟩, st⟩
  · dsimp only [Pt.U, Pt.locs, Pt.cells, Pt.slots] at X' e1 e2 h1 h2 h3 st
    subst h1; subst h2; subst h3
    exact Or.inl ⟨v, (T.setVm vm₁).calling g' mk As.toArray, t, U', L, hT, X', hL, e1, e2, hq, st⟩
  · dsimp only [Pt.U, Pt.locs, Pt.cells, Pt.slots] at X' e1 e2 h1 h2 h3 st hcl
    subst h1; subst h2; subst h3
    exact Or.inr ⟨q, (T.setVm vm₁).calling g' mk As.toArray, t, U', L, E, ce, hT, X', hL, e1, e2, hq, hce, hcv, vx_cls hW₁ hcl, st⟩
end
/-! ===== END ===== -/
end
section
/-! CALLS, THROWS, ENDS, and a method's contract out of its walk -/
section CL
section C1
variable {p : Program} {l : Launch} {e : Env} {R : Room} {s : State} {m : MethodId} {args : Array Value} {below : List Frame} {meth : Method} {c : Code} {Qs : State → Prop} {cc : ByteArray} {nL B : Nat} {g : fw_G} {own : String}
variable {H : Heap} {locs : List Loc} {cells slots mc ms pc : Nat} {la : Array Slot} {rest st0 : List Value} {a : Array Value}
theorem fw_WL_cnt {M : fw_M} {k : Nat} : fw_WL g B (M.1, M.2.1, k) = fw_WL g B M := rfl
theorem fw_callX {Qr : Option Value → fw_M → Prop} (hr : vx_Run p l e R s m args below meth c H locs cells slots mc ms (F0 m pc la st0) rest (fw_Qc g B Qr a) (fw_XC g B (fun _ _ => False)) (fun q => B ≤ q)) (hS : va_S (fun q => B ≤ q) s.heap H locs)
    (kk : ∀ (r : Option Value) (M : fw_M) (H1 : Heap) (locs1 : List Loc), Qr r M → va_P g.1 vwCl (fw_WL g B M) H1 → va_S (fun q => B ≤ q) s.heap H1 locs1 → W p l e R s m args below meth c H1 locs1 (cells + mc) (slots + ms) Qs (F0 m (pc + 3) la (r.toList ++ rest))) : W p l e R s m args below meth c H locs cells slots Qs (F0 m pc la st0) := by
  intro T hT X
  rcases hr T hT X with ⟨v, st₀, t, T', L, h0, X', hL, e1, e2, ⟨⟨r, M, hv, hq, hp⟩, hF⟩, st⟩ | ⟨q, st₀, t, T', L, E, ce, h0, X', hL, e1, e2, ⟨⟨M, hf, -⟩, -⟩, -⟩
  · cases hv
    obtain ⟨k1, k2, k3⟩ := vx_keep h0 e1 hS (fun _ _ h => h) (fun _ h => h) hL hF
    obtain ⟨t2, a1, b1⟩ := kk v M T'.heap (locs ++ L) hq (by rw [e1]; exact hp) k3 T' rfl X'
    exact ⟨t2, st t2 a1, b1⟩
  · exact hf.elim
theorem fw_P_same {D : va_G} {cl : List vw_C} {ws : va_W} {H H1 : Heap} (h : va_P D cl ws H) (hq : ∀ q : Nat, q < H.size → H1[q]? = H[q]?) : va_P D cl ws H1 := by
  intro k q hk
  have hlt := vx_lt h hk
  have h1 := h k q hk
  obtain ⟨a, en⟩ := q
  cases en with
  | inl x =>
    show H1[a]? = _
    rw [hq a hlt]
    exact h1
  | inr o =>
    obtain ⟨r, h2, h3⟩ := h1
    exact ⟨r, h2, h3.kept (hq a hlt)⟩
end C1
theorem fw_goodIn {ws : List Cond} (h : ∀ w ∈ ws, w ∈ fw_LW) : GoodIn fw_LW ws := fun w hw => ⟨h w hw, good_of_word (fw_LW_good (h w hw))⟩
def fw_CalX (l : Launch) (g : fw_G) (B : Nat) (own : String) (R : Room) (q : fw_Cal) : Prop :=
  ∀ (p : Program) (e : Env) (s : State) (m : MethodId) (args : Array Value) (below : List Frame) (meth : Method) (c : Code) (cc : ByteArray) (nL : Nat) (Qs : State → Prop), fw_Env p s m args c cc nL g own → fw_Amb g B s s.heap → fw_CallOK p l e R s m args below meth c cc nL B g (fun _ => 0) (fun _ => 0) Qs q
theorem fw_Pc_at {g : fw_G} {B : Nat} {M : fw_M} {s U : State} {H : Heap} {locs : List Loc} {as : List Value} (hAmb : fw_Amb g B s s.heap) (hP : va_P g.1 vwCl (fw_WL g B M) H) (hS : va_S (fun q => B ≤ q) s.heap H locs) (hU : U.heap = H) (hW : s.WarmedH U.vm) : fw_Pc g B as M as.toArray U :=
  ⟨rfl, by rw [hU]; exact hP, hAmb.warm hW (fun a h1 h2 => by rw [hU]; exact hS.2.1 a h1 h2)⟩
theorem fw_calV {l : Launch} {g : fw_G} {B : Nat} {own : String} {R : Room} {y : MethodName} {cc1 : ByteArray} {nL1 : Nat} {rt1 : Option FieldType} {rm1 : Room} {ct : fw_CTX} {ix ci n : Nat} (hM : fw_Met l g B y cc1 nL1 rt1 rm1 0 0 ct) (hci : ci < 7)
    (w1 : Cond.methodLink own ix y ∈ fw_LW) (w2 : Cond.instanceMethod y ∈ fw_LW) (w3 : Cond.selects (fw_cl ci).1 y y ∈ fw_LW) (w4 : Cond.initialized (fw_cl ci).1 ∈ fw_LW) (w5 : Cond.code y cc1 nL1 rt1 ∈ fw_LW) (hrc : rm1.cells = 0) (hrs : rm1.slots = 0)
    (hd : y.cls = (fw_cl ci).1 ∧ y.cls ≠ "java/lang/invoke/MethodHandle" ∧ y.cls ≠ "java/lang/invoke/VarHandle" ∧ (parseMethodDescriptor y.desc).map (fun d => d.parameters.length) = some n) (hR : rm1.frames + 1 ≤ R.frames ∧ 8 + (nL1 + 11) + rm1.locals ≤ R.locals) :
    fw_CalX l g B own R (ix, 0, ci, n + 1, 0, fun as M Q => ct as M Q (fun _ _ => False)) := by
  intro p e s m args below meth c cc nL Qs E hAmb pc as rest M ls Qr hk hlen hrest hct hq H locs la hP hS hl
  obtain ⟨hx, hb, hml, hown, hts, hK⟩ := E
  rcases hk with ⟨-, hdg, b, as', rfl, hkd⟩ | ⟨h0, -⟩
  · have hkd : fw_kd B b = ci := hkd
    obtain ⟨o, ho, rfl, hko⟩ := fw_kd_at hkd (by omega)
    have hG : GoodIn fw_LW (wsV own ix (fw_cl ci).1 y (fw_ws y cc1 nL1 rt1)) := fw_goodIn (by
      intro w hw
      rcases List.mem_append.mp hw with hw | hw
      · simp only [List.mem_cons, List.not_mem_nil, or_false] at hw
        rcases hw with rfl | rfl | rfl | rfl
        · exact w1
        · exact w2
        · exact w3
        · exact w4
      · rcases List.mem_cons.mp hw with rfl | hw
        · exact w5
        · exact hw)
    have hrecv := va_recv (D := g.1) (cl := vwCl) (tys := fw_tys g) hK hP (ci := ci) (q0 := o) (fw_cl_get ci hci) (by rw [fw_WL_get ho, fw_ct_obj hko hci])
    refine fw_callX (mc := 0) (ms := 0) (vx_runV (C := (fw_cl ci).1) (As := as') (rest := rest) ⟨hx, hb, hml, hown, hts⟩ (hM _ M Qr (fun _ _ => False) hct) (cwV n hts hG rfl hrc hrs hd hR) ⟨fw_Pc_blind, hrecv, fun U hU hW => fw_Pc_at hAmb hP hS hU hW⟩ rfl ?_ hl.1 ?_ (lv_room hrest) hdg ⟨Nat.zero_le _, Nat.zero_le _⟩) hS ?_
    · exact Nat.succ.inj hlen
    · simp
    · intro r M' H1 locs1 hqr hP1 hS1
      exact hq r M' hqr H1 locs1 la hP1 hS1 hl
  · cases h0
theorem fw_calS {l : Launch} {g : fw_G} {B : Nat} {own : String} {R : Room} {y : MethodName} {cc1 : ByteArray} {nL1 : Nat} {rt1 : Option FieldType} {rm1 : Room} {ct : fw_CTX} {ix ci n : Nat} (hM : fw_Met l g B y cc1 nL1 rt1 rm1 0 0 ct)
    (w1 : Cond.methodLink own ix y ∈ fw_LW) (w2 : Cond.static y ∈ fw_LW) (w4 : Cond.initialized own ∈ fw_LW) (w5 : Cond.code y cc1 nL1 rt1 ∈ fw_LW) (hrc : rm1.cells = 0) (hrs : rm1.slots = 0)
    (hd : y.cls = own ∧ y.cls ≠ "java/lang/invoke/MethodHandle" ∧ y.cls ≠ "java/lang/invoke/VarHandle" ∧ (parseMethodDescriptor y.desc).map (fun d => d.parameters.length) = some n) (hR : rm1.frames + 1 ≤ R.frames ∧ 8 + (nL1 + 11) + rm1.locals ≤ R.locals) :
    fw_CalX l g B own R (ix, 1, ci, n, 0, fun as M Q => ct as M Q (fun _ _ => False)) := by
  intro p e s m args below meth c cc nL Qs E hAmb pc as rest M ls Qr hk hlen hrest hct hq H locs la hP hS hl
  obtain ⟨hx, hb, hml, hown, hts, hK⟩ := E
  rcases hk with ⟨h0, -⟩ | ⟨-, hdg⟩
  · cases h0
  · have hG : GoodIn fw_LW (wsS own ix y (fw_ws y cc1 nL1 rt1)) := fw_goodIn (by
      intro w hw
      rcases List.mem_append.mp hw with hw | hw
      · simp only [List.mem_cons, List.not_mem_nil, or_false] at hw
        rcases hw with rfl | rfl | rfl
        · exact w1
        · exact w2
        · exact w4
      · rcases List.mem_cons.mp hw with rfl | hw
        · exact w5
        · exact hw)
    refine fw_callX (mc := 0) (ms := 0) (vx_runS (As := as) (rest := rest) ⟨hx, hb, hml, hown, hts⟩ (hM _ M Qr (fun _ _ => False) hct) (cwS n hts hG rfl hrc hrs hd hR) ⟨fw_Pc_blind, fun U hU hW => fw_Pc_at hAmb hP hS hU hW⟩ rfl hlen hl.1 rfl (lv_room hrest) hdg ⟨Nat.zero_le _, Nat.zero_le _⟩) hS ?_
    intro r M' H1 locs1 hqr hP1 hS1
    exact hq r M' hqr H1 locs1 la hP1 hS1 hl
theorem fw_calSN {l : Launch} {g : fw_G} {B : Nat} {own host : String} {R : Room} {y : MethodName} {cc1 : ByteArray} {nL1 : Nat} {rt1 : Option FieldType} {rm1 : Room} {ct : fw_CTX} {ix ci n : Nat} (hM : fw_Met l g B y cc1 nL1 rt1 rm1 0 0 ct)
    (w1 : Cond.methodLinkNest own ix y host ∈ fw_xw) (w2 : Cond.static y ∈ fw_LW) (w4 : Cond.initialized y.cls ∈ fw_LW) (w5 : Cond.code y cc1 nL1 rt1 ∈ fw_LW) (hrc : rm1.cells = 0) (hrs : rm1.slots = 0)
    (hd : y.cls ≠ "java/lang/invoke/MethodHandle" ∧ y.cls ≠ "java/lang/invoke/VarHandle" ∧ (parseMethodDescriptor y.desc).map (fun d => d.parameters.length) = some n) (hR : rm1.frames + 1 ≤ R.frames ∧ 8 + (nL1 + 11) + rm1.locals ≤ R.locals) :
    fw_CalX l g B own R (ix, 1, ci, n, 0, fun as M Q => ct as M Q (fun _ _ => False)) := by
  intro p e s m args below meth c cc nL Qs E hAmb pc as rest M ls Qr hk hlen hrest hct hq H locs la hP hS hl
  obtain ⟨hx, hb, hml, hown, hts, hK⟩ := E
  rcases hk with ⟨h0, -⟩ | ⟨-, hdg⟩
  · cases h0
  · have hG : GoodIn fw_LW (fw_ws y cc1 nL1 rt1) := fw_goodIn (by
      intro w hw
      rcases List.mem_cons.mp hw with rfl | hw
      · exact w5
      · exact hw)
    refine fw_callX (mc := 0) (ms := 0) (vx_runSN (As := as) (rest := rest) ⟨hx, hb, hml, hown, hts⟩ (hM _ M Qr (fun _ _ => False) hct) ⟨va_cnB n hts hG rfl hrc hrs (hAmb.2.1 _ w1) (hts _ w4) hd hR, hts _ w2, trivial⟩ ⟨fw_Pc_blind, fun U hU hW => fw_Pc_at hAmb hP hS hU hW⟩ rfl hlen hl.1 rfl (lv_room hrest) hdg ⟨Nat.zero_le _, Nat.zero_le _⟩) hS ?_
    intro r M' H1 locs1 hqr hP1 hS1
    exact hq r M' hqr H1 locs1 la hP1 hS1 hl
/-! the JDK's own: Math.abs, Math.min, System.arraycopy of two rows of ints from their heads -/
def fw_ctAbs (as : List Value) (M : fw_M) (Q : Option Value → fw_M → Prop) : Prop := match as with
  | [.int x] => Q (some (.int (if 0 ≤ x then x else 0 - x))) M
  | _ => False
def fw_ctMin (as : List Value) (M : fw_M) (Q : Option Value → fw_M → Prop) : Prop := match as with
  | [.int x, .int y] => Q (some (.int (if y < x then y else x))) M
  | _ => False
def fw_ctCopy (B : Nat) (as : List Value) (M : fw_M) (Q : Option Value → fw_M → Prop) : Prop := match as with
  | [.ref a, .int i, .ref b, .int j, .int n] => fw_kd B a = 7 ∧ fw_kd B b = 7 ∧ i = 0 ∧ j = 0 ∧ ¬ n < 0 ∧ n.toNatClampNeg ≤ fw_len B a ∧ n.toNatClampNeg ≤ fw_len B b ∧ Q none (fw_row M b (va_cpy (M.1 a) (M.1 b) 0 0 n.toNatClampNeg))
  | _ => False
theorem fw_calAbs {l : Launch} {g : fw_G} {B : Nat} {own : String} {R : Room} {ix ci : Nat} (w1 : Cond.methodLink own ix Lib.Math.abs.name ∈ fw_LW) (w2 : Cond.static Lib.Math.abs.name ∈ fw_LW) (w3 : Cond.initialized "java/lang/Math" ∈ fw_LW) (w4 : Cond.code Lib.Math.abs.name Lib.Math.abs.code 1 (some .int) ∈ fw_LW) (hf : 1 ≤ R.frames) (hlo : 21 ≤ R.locals) :
    fw_CalX l g B own R (ix, 1, ci, 1, 0, fw_ctAbs) := by
  intro p e s m args below meth c cc nL Qs E hAmb pc as rest M ls Qr hk hlen hrest hct hq H locs la hP hS hl
  obtain ⟨hx, hb, hml, hown, hts, hK⟩ := E
  rcases hk with ⟨h0, -⟩ | ⟨-, hdg⟩
  · cases h0
  · unfold fw_ctAbs at hct
    dsimp only at hct
    split at hct
    · exact va_mabs (rest := rest) hx hb (by rw [hml, hl.1]) hown (hts _ w1) (hts _ w2) (hts _ w3) (hts _ w4) hf (by omega) (Nat.zero_le _) (Nat.zero_le _) hdg (hq _ _ hct H locs la hP hS hl)
    · exact hct.elim
theorem fw_calMin {l : Launch} {g : fw_G} {B : Nat} {own : String} {R : Room} {ix ci : Nat} (w1 : Cond.methodLink own ix Lib.Math.min.name ∈ fw_LW) (w2 : Cond.static Lib.Math.min.name ∈ fw_LW) (w3 : Cond.initialized "java/lang/Math" ∈ fw_LW) (w4 : Cond.code Lib.Math.min.name Lib.Math.min.code 2 (some .int) ∈ fw_LW) (hf : 1 ≤ R.frames) (hlo : 21 ≤ R.locals) :
    fw_CalX l g B own R (ix, 1, ci, 2, 0, fw_ctMin) := by
  intro p e s m args below meth c cc nL Qs E hAmb pc as rest M ls Qr hk hlen hrest hct hq H locs la hP hS hl
  obtain ⟨hx, hb, hml, hown, hts, hK⟩ := E
  rcases hk with ⟨h0, -⟩ | ⟨-, hdg⟩
  · cases h0
  · unfold fw_ctMin at hct
    dsimp only at hct
    split at hct
    · exact va_mmin (rest := rest) hx hb (by rw [hml, hl.1]) hown (hts _ w1) (hts _ w2) (hts _ w3) (hts _ w4) hf (by omega) (Nat.zero_le _) (Nat.zero_le _) hdg (hq _ _ hct H locs la hP hS hl)
    · exact hct.elim
theorem fw_fv_row {M : fw_M} {ci k a b : Nat} {f : Nat → Int32} (h : b ≠ a) : fw_fv ci k b (fw_row M a f) = fw_fv ci k b M := by
  unfold fw_fv fw_fw
  cases fw_fc ci k with
  | zero =>
    show Value.int ((if b = a then f else M.1 b) k) = _
    rw [if_neg h]
  | succ n => cases n <;> rfl
theorem fw_rowset {g : fw_G} {B o : Nat} {M : fw_M} {f : Nat → Int32} (ho : o < 499) (h : fw_ko o = 7) :
    (fw_WL g B M).set o (B + o, .inl (g.2 0, fw_lo o, .inl f)) = fw_WL g B (fw_row M (B + o) f) := by
  refine fw_WL_set ho ?_ (fun o' _ hn => ?_)
  · rw [fw_ct_7 h]
    show Sum.inl (g.2 0, fw_lo o, Sum.inl (if B + o = B + o then f else M.1 (B + o))) = _
    rw [if_pos rfl]
  · have hb : B + o' ≠ B + o := by omega
    unfold fw_ct fw_fs
    simp only [fw_fv_row hb]
    rw [show (fw_row M (B + o) f).1 (B + o') = M.1 (B + o') from if_neg hb]
    rfl
theorem fw_calCopy {l : Launch} {g : fw_G} {B : Nat} {own : String} {R : Room} {ix ci : Nat} (w1 : Cond.methodLink own ix arraycopyName ∈ fw_LW) (w2 : Cond.native arraycopyName ∈ fw_LW) (w3 : Cond.static arraycopyName ∈ fw_LW) (w4 : Cond.initialized "java/lang/System" ∈ fw_LW) (hf : 1 ≤ R.frames) (hlo : 8 + (nativeFrameWords "java/lang/System" "arraycopy" 5 + 11) ≤ R.locals) :
    fw_CalX l g B own R (ix, 1, ci, 5, 0, fw_ctCopy B) := by
  intro p e s m args below meth c cc nL Qs E hAmb pc as rest M ls Qr hk hlen hrest hct hq H locs la hP hS hl
  obtain ⟨hx, hb, hml, hown, hts, hK⟩ := E
  rcases hk with ⟨h0, -⟩ | ⟨-, hdg⟩
  · cases h0
  · unfold fw_ctCopy at hct
    dsimp only at hct
    split at hct
    · rename_i a i b j n
      obtain ⟨k1, k2, rfl, rfl, k3, k4, k5, hq1⟩ := hct
      obtain ⟨o1, ho1, rfl, hko1⟩ := fw_kd_at k1 (by omega)
      obtain ⟨o2, ho2, rfl, hko2⟩ := fw_kd_at k2 (by omega)
      have e1 : fw_len B (B + o1) = fw_lo o1 := by unfold fw_len; rw [Nat.add_sub_cancel_left]
      have e2 : fw_len B (B + o2) = fw_lo o2 := by unfold fw_len; rw [Nat.add_sub_cancel_left]
      rw [e1] at k4
      rw [e2] at k5
      refine va_copyi (rest := rest) (D := g.1) (cl := vwCl) (tys := fw_tys g) (A := fun q => B ≤ q) (H0 := s.heap) (f := M.1 (B + o1)) (g := M.1 (B + o2)) (n0 := fw_lo o1) (n1 := fw_lo o2) (ty := .int) hx hb (by rw [hml, hl.1]) hown (hts _ w1) (hts _ w2) (hts _ w3) (hts _ w4) hK hP fw_WL_D hS o1 o2 0 0 (by rw [fw_WL_get ho1, fw_ct_7 hko1]) (by rw [fw_WL_get ho2, fw_ct_7 hko2]) rfl rfl rfl (by decide) (by decide) k3 ?_ ?_ (fun i _ => rfl) hf (by omega) hdg ?_
      · rw [show (0 : Int32).toNatClampNeg = 0 from rfl]; omega
      · rw [show (0 : Int32).toNatClampNeg = 0 from rfl]; omega
      · intro H1 locs1 hP1 hD1 hS1
        rw [show (0 : Int32).toNatClampNeg = 0 from rfl, fw_rowset ho2 hko2] at hP1
        exact hq _ _ hq1 H1 locs1 la hP1 hS1 hl
    · exact hct.elim
/-! throws -/
def fw_ThrX (l : Launch) (g : fw_G) (B : Nat) (own : String) (R : Room) (mc ms : Nat) (q : Nat × String) : Prop :=
  ∀ (p : Program) (e : Env) (s : State) (m : MethodId) (args : Array Value) (below : List Frame) (meth : Method) (c : Code) (cc : ByteArray) (nL : Nat) (Q : Option Value → fw_M → Prop) (QX : String → fw_M → Prop), fw_Env p s m args c cc nL g own → fw_Amb g B s s.heap → meth.locks = false → (∀ x ∈ c.exceptionTable.toList, False) →
    fw_ThrOK p l e R s m args below meth c cc nL B g (fun _ => 0) (fun _ => 0) (vx_MQ below (fw_Qc g B Q) (fw_XC g B QX) args s mc ms (fun q => B ≤ q)) QX q
theorem fw_thrX {l : Launch} {g : fw_G} {B : Nat} {own : String} {R : Room} {mc ms ik : Nat} {cls : String} (htr : l.stackTraces = false) (hcls : Bundle.fit cls = true) (w1 : Cond.classLink own ik cls ∈ fw_LW) (w2 : Cond.initialized cls ∈ fw_LW)
    (hgd : ∀ w ∈ (vx_at0 own (ik + 2) cls ["java/lang/RuntimeException", "java/lang/Exception"]).filter goodWord, w ∈ fw_LW) (hbd : ∀ w ∈ (vx_at0 own (ik + 2) cls ["java/lang/RuntimeException", "java/lang/Exception"]).filter (fun w => !goodWord w), w ∈ fw_xw)
    (hot : (Cond.classLink own ik cls :: Cond.initialized cls :: vx_at0 own (ik + 2) cls ["java/lang/RuntimeException", "java/lang/Exception"]).all vx_ot = true)
    (hRf : 5 < R.frames) (hRl : 81 ≤ R.locals) (hRc : 1 ≤ R.cells) (hRs : 6 ≤ R.slots) (hmc : 1 ≤ mc) (hms : 6 ≤ ms) : fw_ThrX l g B own R mc ms (ik, cls) := by
  intro p e s m args below meth c cc nL Q QX E hAmb hlocks hex pc ls M hd hnw hqx H locs la hP hS hl
  obtain ⟨hx, hb, hml, hown, hts, hK⟩ := E
  obtain ⟨d3, d4, d7⟩ := hnw
  refine vx_throw0 (names := ["java/lang/RuntimeException", "java/lang/Exception"]) (A := fun q => B ≤ q) hx hb htr hown hcls (by decide +kernel) (hts _ w1) (hts _ w2) (vx_hat (B := fw_xw) (fun w hw => hts w (hgd w hw)) hbd (fun w hw => va_Nw.use (fw_xw_tab hw) (hAmb.2.1 w hw))) (fun w hw => List.all_eq_true.mp hot w hw) hAmb.2.2.1 hAmb.2.2.2 hS (by rw [hml, hl.1]) hd d3 d4 d7 (fun x hx => (hex x hx).elim) hRf ?_ ?_ ?_ hlocks ?_ hS.2.2 ?_ ?_
  · simpa using hRl
  · simpa using hRc
  · simpa using hRs
  · intro t hal hsz hk
    refine ⟨⟨M, hqx, fw_P_same hP hk⟩, Nat.le_trans hS.1 hsz, fun q h1 h2 => ?_⟩
    rw [hk q (Nat.lt_of_lt_of_le h1 hS.1)]
    exact hS.2.1 q h1 h2
  · simpa using hmc
  · simpa using hms
/-! ends -/
theorem fw_ret {p : Program} {l : Launch} {e : Env} {R : Room} {s : State} {m : MethodId} {args : Array Value} {below : List Frame} {meth : Method} {c : Code} {cc : ByteArray} {nL B : Nat} {g : fw_G} {own : String} {rt : Option FieldType} {Q : Option Value → fw_M → Prop} {XC : String → State → State → Prop} {mc ms : Nat}
    (E : fw_Env p s m args c cc nL g own) (hr : meth.sig.returnType = rt) (hlocks : meth.locks = false) : fw_RetOK p l e R s m args below meth c cc nL B g (fun _ => 0) (fun _ => 0) (vx_MQ below (fw_Qc g B Q) XC args s mc ms (fun q => B ≤ q)) rt Q := by
  obtain ⟨hx, hb, hml, hown, hts, hK⟩ := E
  have key : ∀ {H : Heap} {locs : List Loc} {M : fw_M} {r : Option Value}, va_P g.1 vwCl (fw_WL g B M) H → va_S (fun q => B ≤ q) s.heap H locs → Q r M → ∀ t : State, t.heap = H → s.WarmedH t.vm → fw_Qc g B Q args s (.returned r) t := by
    intro H locs M r hP hS hq t ht hW
    exact ⟨⟨r, M, rfl, hq, by rw [ht]; exact hP⟩, hS.F ht⟩
  intro pc ls st M
  refine ⟨?_, ?_, ?_, ?_, ?_⟩
  · intro hd h
    unfold fw_endi at h
    split at h
    · intro H locs la hP hS hl
      exact vx_ret (W.widen (k := mc) (n := ms) (Nat.zero_le _) (Nat.zero_le _) (W.iret hx hb hr (key hP hS h) hS.2.2 hd))
    · obtain ⟨hz, h⟩ := h
      intro H locs la hP hS hl
      exact vx_ret (W.widen (k := mc) (n := ms) (Nat.zero_le _) (Nat.zero_le _) (W.zret hx hb hr (by rcases hz with rfl | rfl <;> rfl) (key hP hS h) hS.2.2 hd))
    · exact h.elim
  · intro hd h
    unfold fw_enda at h
    split at h
    · intro H locs la hP hS hl
      exact vx_ret (W.widen (k := mc) (n := ms) (Nat.zero_le _) (Nat.zero_le _) (W.aret hx hb hr (Or.inl ⟨_, rfl⟩) (Or.inr ⟨_, rfl⟩) (key hP hS h) hS.2.2 hd))
    · intro H locs la hP hS hl
      exact vx_ret (W.widen (k := mc) (n := ms) (Nat.zero_le _) (Nat.zero_le _) (W.aret hx hb hr (Or.inl ⟨_, rfl⟩) (Or.inl rfl) (key hP hS h) hS.2.2 hd))
    · exact h.elim
  · intro hd h
    unfold fw_endl at h
    split at h
    · intro H locs la hP hS hl
      exact vx_ret (W.widen (k := mc) (n := ms) (Nat.zero_le _) (Nat.zero_le _) (W.lret hx hb hr (key hP hS h) hS.2.2 hd))
    · exact h.elim
  · intro hd h
    unfold fw_endd at h
    split at h
    · intro H locs la hP hS hl
      exact vx_ret (W.widen (k := mc) (n := ms) (Nat.zero_le _) (Nat.zero_le _) (W.dret hx hb hr (key hP hS h) hS.2.2 hd))
    · exact h.elim
  · intro hd h
    unfold fw_endv at h
    split at h
    · intro H locs la hP hS hl
      exact vx_ret (W.widen (k := mc) (n := ms) (Nat.zero_le _) (Nat.zero_le _) (W.vret hx hb hr (key hP hS h) hS.2.2 hd))
    · exact h.elim
/-! a body's start -/
def fw_in0 : List Value → fw_L
  | [] => []
  | v :: t => bif fw_c2 (some v) then some v :: none :: fw_in0 t else some v :: fw_in0 t
def fw_pad : Nat → fw_L → fw_L
  | 0, _ => []
  | n + 1, [] => none :: fw_pad n []
  | n + 1, o :: t => o :: fw_pad n t
theorem fw_lg_pad : ∀ {n : Nat} {ls : fw_L} {i : Nat} {v : Value}, fw_lg (fw_pad n ls) i = some v → fw_lg ls i = some v := by
  intro n
  induction n with
  | zero => intro ls i v h; cases h
  | succ n ih =>
    intro ls i v h
    cases ls with
    | nil =>
      cases i with
      | zero => cases h
      | succ i => have h := ih (ls := []) (i := i) h; cases h
    | cons o t =>
      cases i with
      | zero => exact h
      | succ i => exact ih (ls := t) (i := i) h
theorem fw_lg_in0 {v : Value} : ∀ {vs : List Value} {i k : Nat}, fw_lg (fw_in0 vs) i = some v → (k + i, v) ∈ lv_args k vs := by
  intro vs
  induction vs with
  | nil => intro i k h; cases h
  | cons w t ih =>
    intro i k h
    unfold fw_in0 at h
    unfold lv_args
    have hc : fw_c2 (some w) = true ↔ w.category = 2 := by cases w <;> simp [fw_c2, Value.category]
    cases hb : fw_c2 (some w) with
    | true =>
      rw [hb] at h
      rw [if_pos (hc.mp hb)]
      match i, h with
      | 0, h =>
        have h : some w = some v := h
        cases h
        exact List.mem_cons_self
      | 1, h => cases h
      | i + 2, h =>
        have h : fw_lg (fw_in0 t) i = some v := h
        have h2 := ih (k := k + 2) h
        rw [show k + 2 + i = k + (i + 2) by omega] at h2
        exact List.mem_cons_of_mem _ h2
    | false =>
      rw [hb] at h
      rw [if_neg (fun z => by rw [hc.mpr z] at hb; cases hb)]
      match i, h with
      | 0, h =>
        have h : some w = some v := h
        cases h
        exact List.mem_cons_self
      | i + 1, h =>
        have h : fw_lg (fw_in0 t) i = some v := h
        have h2 := ih (k := k + 1) h
        rw [show k + 1 + i = k + (i + 1) by omega] at h2
        exact List.mem_cons_of_mem _ h2
/-- a walk of a body with its loops, for a contract ct -/
def fw_Wk (B : Nat) (fld : List (Nat × Nat × Nat)) (cal : List fw_Cal) (thr : List (Nat × String)) (cst : List (Nat × Value)) (rt : Option FieldType) (code : List fw_Ent) (nL : Nat) (ct : fw_CTX) : Prop :=
  ∀ as M Q QX, ct as M Q QX → Nat.ble (lg_sl as).length nL = true ∧ ∃ A : fw_AL, (∃ F, fw_wp B fld cal thr cst none rt Q QX code (fw_Ka A) F true (fw_seek 0 code) (fw_pad nL (fw_in0 as)) [] M) ∧
    ∀ q ∈ A, ∀ n ls st M, q.2.2 n ls st M → ∃ F, fw_wp B fld cal thr cst none rt Q QX code (fw_Kn A n) F true (fw_seek q.1 code) ls st M
theorem fw_met {l : Launch} {g : fw_G} {B : Nat} {y : MethodName} {cc : ByteArray} {nL : Nat} {rt : Option FieldType} {rm : Room} {mc ms : Nat} {own : String} {code : List fw_Ent} {cst : List (Nat × Value)} {fld : List (Nat × Nat × Nat)} {cal : List fw_Cal} {thr : List (Nat × String)} {ct : fw_CTX}
    (hy : plainName y.cls = true) (hcls : y.cls = own) (hchk : fw_chk cc nL code = true) (hcst : ∀ en ∈ code, fw_CstOK own cst en) (hfld : fw_Fld own fld) (hcal : ∀ q ∈ cal, fw_CalX l g B own rm q) (hthr : ∀ q ∈ thr, fw_ThrX l g B own rm mc ms q)
    (hw : fw_Wk B fld cal thr cst rt code nL ct) : fw_Met l g B y cc nL rt rm mc ms ct := by
  intro as M Q QX hct
  obtain ⟨hlen, A, ⟨F, hwp⟩, hA⟩ := hw as M Q QX hct
  refine vx_ofW (cc := cc) (maxL := nL) (ret := rt) hy rfl ?_
  intro p e s m args below meth c s₁ Bd hml hex hv
  obtain ⟨rfl, hP, hAmb⟩ := hv
  have hts0 := atoms_spec (ws := fw_ws y cc nL rt) Bd.pre
  have hown : s.vm.findClass own = some m.cls := by rw [← hcls]; exact findClass_of_methodNamed Bd.named
  have hlocks := Bd.notSynchronized
  have E : fw_Env p s m as.toArray c cc nL g own := ⟨Bd.exec, Bd.bytes, hml, hown, fun w hw => hts0 w (List.mem_cons_of_mem _ hw), hAmb.1⟩
  have hl := lv_entry as (n := nL) (Nat.le_of_ble_eq_true hlen)
  rw [lg_entry_eq]
  exact fw_body (p := p) (l := l) (e := e) (R := rm) (Qs := vx_MQ below (fw_Qc g B Q) (fw_XC g B QX) as.toArray s mc ms (fun q => B ≤ q)) (cf := fun _ => 0) (sf := fun _ => 0) (scr := none) E hchk hcst hfld trivial
    (fun q hq => hcal q hq p e s m as.toArray below meth c cc nL _ E hAmb) (fun q hq => hthr q hq p e s m as.toArray below meth c cc nL Q QX E hAmb hlocks hex) (fw_ret E Bd.returns hlocks) A hA hwp s.heap [] _ hP va_S.rf
    ⟨hl.1, hl.2.1, fun i v hi => by
      have h1 := fw_lg_in0 (k := 0) (fw_lg_pad hi)
      rw [Nat.zero_add] at h1
      exact hl.2.2 (i, v) h1⟩
end CL
end
section
def fw_cstq (cp : List (Nat × Int32)) (en : fw_Ent) : Bool := match en.2.2.1 with
  | .ldc i => decide ((i, en.2.2.2.1) ∈ cp)
  | .ldc_w i => decide ((i, en.2.2.2.1) ∈ cp)
  | _ => true
theorem fw_cstX {own : String} {cst : List (Nat × Value)} {cp : List (Nat × Int32)} {en : fw_Ent} (hcp : ∀ q ∈ cp, Cond.constant own q.1 q.2 ∈ fw_LW) (hcst : ∀ i v, (i, Value.long v) ∈ cst → Cond.constantLong own i v ∈ fw_LW) (h : fw_cstq cp en = true) : fw_CstOK own cst en := by
  obtain ⟨pc, len, i, num, tgt⟩ := en
  unfold fw_CstOK
  dsimp only
  cases i with
  | ldc i => exact hcp (i, num) (of_decide_eq_true h)
  | ldc_w i => exact hcp (i, num) (of_decide_eq_true h)
  | ldc2_w i => exact fun v hv => hcst i v (fw_find_mem hv)
  | _ => trivial
def cst_X0 : List (Nat × Value) := []
def cp_X0 : List (Nat × Int32) := []
theorem cp_X0_ok : ∀ q ∈ cp_X0, Cond.constant RX0 q.1 q.2 ∈ fw_LW := by
  intro q hq
  simp only [cp_X0, List.mem_cons, List.not_mem_nil, or_false] at hq
theorem cst_X0_ok : ∀ i v, (i, Value.long v) ∈ cst_X0 → Cond.constantLong RX0 i v ∈ fw_LW := by
  intro i v hq
  simp only [cst_X0, List.mem_cons, List.not_mem_nil, or_false, Prod.mk.injEq, Value.long.injEq] at hq
def cst_X1 : List (Nat × Value) := [(173, .long 31)]
def cp_X1 : List (Nat × Int32) := []
theorem cp_X1_ok : ∀ q ∈ cp_X1, Cond.constant RX1 q.1 q.2 ∈ fw_LW := by
  intro q hq
  simp only [cp_X1, List.mem_cons, List.not_mem_nil, or_false] at hq
theorem cst_X1_ok : ∀ i v, (i, Value.long v) ∈ cst_X1 → Cond.constantLong RX1 i v ∈ fw_LW := by
  intro i v hq
  simp only [cst_X1, List.mem_cons, List.not_mem_nil, or_false, Prod.mk.injEq, Value.long.injEq] at hq
  rcases hq with ⟨rfl, rfl⟩
  · exact wk_X1_173
def cst_X2 : List (Nat × Value) := []
def cp_X2 : List (Nat × Int32) := []
theorem cp_X2_ok : ∀ q ∈ cp_X2, Cond.constant RX2 q.1 q.2 ∈ fw_LW := by
  intro q hq
  simp only [cp_X2, List.mem_cons, List.not_mem_nil, or_false] at hq
theorem cst_X2_ok : ∀ i v, (i, Value.long v) ∈ cst_X2 → Cond.constantLong RX2 i v ∈ fw_LW := by
  intro i v hq
  simp only [cst_X2, List.mem_cons, List.not_mem_nil, or_false, Prod.mk.injEq, Value.long.injEq] at hq
def cst_X3 : List (Nat × Value) := []
def cp_X3 : List (Nat × Int32) := []
theorem cp_X3_ok : ∀ q ∈ cp_X3, Cond.constant RX3 q.1 q.2 ∈ fw_LW := by
  intro q hq
  simp only [cp_X3, List.mem_cons, List.not_mem_nil, or_false] at hq
theorem cst_X3_ok : ∀ i v, (i, Value.long v) ∈ cst_X3 → Cond.constantLong RX3 i v ∈ fw_LW := by
  intro i v hq
  simp only [cst_X3, List.mem_cons, List.not_mem_nil, or_false, Prod.mk.injEq, Value.long.injEq] at hq
def cst_X4 : List (Nat × Value) := []
def cp_X4 : List (Nat × Int32) := []
theorem cp_X4_ok : ∀ q ∈ cp_X4, Cond.constant RX4 q.1 q.2 ∈ fw_LW := by
  intro q hq
  simp only [cp_X4, List.mem_cons, List.not_mem_nil, or_false] at hq
theorem cst_X4_ok : ∀ i v, (i, Value.long v) ∈ cst_X4 → Cond.constantLong RX4 i v ∈ fw_LW := by
  intro i v hq
  simp only [cst_X4, List.mem_cons, List.not_mem_nil, or_false, Prod.mk.injEq, Value.long.injEq] at hq
def cst_X5 : List (Nat × Value) := [(196, .long 102703), (198, .long 31)]
def cp_X5 : List (Nat × Int32) := [(207, 65535)]
theorem cp_X5_ok : ∀ q ∈ cp_X5, Cond.constant RX5 q.1 q.2 ∈ fw_LW := by
  intro q hq
  simp only [cp_X5, List.mem_cons, List.not_mem_nil, or_false] at hq
  rcases hq with rfl
  · exact wk_X5_207
theorem cst_X5_ok : ∀ i v, (i, Value.long v) ∈ cst_X5 → Cond.constantLong RX5 i v ∈ fw_LW := by
  intro i v hq
  simp only [cst_X5, List.mem_cons, List.not_mem_nil, or_false, Prod.mk.injEq, Value.long.injEq] at hq
  rcases hq with ⟨rfl, rfl⟩ | ⟨rfl, rfl⟩
  · exact wk_X5_196
  · exact wk_X5_198
def cst_X6 : List (Nat × Value) := [(187, .long 31), (193, .long 3313)]
def cp_X6 : List (Nat × Int32) := [(100, 65535)]
theorem cp_X6_ok : ∀ q ∈ cp_X6, Cond.constant RX6 q.1 q.2 ∈ fw_LW := by
  intro q hq
  simp only [cp_X6, List.mem_cons, List.not_mem_nil, or_false] at hq
  rcases hq with rfl
  · exact wk_X6_100
theorem cst_X6_ok : ∀ i v, (i, Value.long v) ∈ cst_X6 → Cond.constantLong RX6 i v ∈ fw_LW := by
  intro i v hq
  simp only [cst_X6, List.mem_cons, List.not_mem_nil, or_false, Prod.mk.injEq, Value.long.injEq] at hq
  rcases hq with ⟨rfl, rfl⟩ | ⟨rfl, rfl⟩
  · exact wk_X6_187
  · exact wk_X6_193
/-! CODE: every method of the class and of the reference as a list of decoded rows (printed by program) -/
def fl_X5 : List (Nat × Nat × Nat) := [(10, 5, 0), (16, 5, 1), (22, 5, 2), (29, 5, 3), (43, 1, 2), (65, 0, 0), (76, 1, 3), (83, 1, 1), (86, 0, 4), (96, 1, 0), (135, 3, 5), (138, 3, 1), (147, 3, 0), (175, 4, 2), (184, 4, 3), (190, 2, 2)]
theorem fl_X5_ok : fw_Fld RX5 fl_X5 := by
  intro q hq
  simp only [fl_X5, List.mem_cons, List.not_mem_nil, or_false] at hq
  rcases hq with rfl | rfl | rfl | rfl | rfl | rfl | rfl | rfl | rfl | rfl | rfl | rfl | rfl | rfl | rfl | rfl
  · exact ⟨by decide, by decide, rfl, wf_X5_10⟩
  · exact ⟨by decide, by decide, rfl, wf_X5_16⟩
  · exact ⟨by decide, by decide, rfl, wf_X5_22⟩
  · exact ⟨by decide, by decide, rfl, wf_X5_29⟩
  · exact ⟨by decide, by decide, rfl, wf_X5_43⟩
  · exact ⟨by decide, by decide, rfl, wf_X5_65⟩
  · exact ⟨by decide, by decide, rfl, wf_X5_76⟩
  · exact ⟨by decide, by decide, rfl, wf_X5_83⟩
  · exact ⟨by decide, by decide, rfl, wf_X5_86⟩
  · exact ⟨by decide, by decide, rfl, wf_X5_96⟩
  · exact ⟨by decide, by decide, rfl, wf_X5_135⟩
  · exact ⟨by decide, by decide, rfl, wf_X5_138⟩
  · exact ⟨by decide, by decide, rfl, wf_X5_147⟩
  · exact ⟨by decide, by decide, rfl, wf_X5_175⟩
  · exact ⟨by decide, by decide, rfl, wf_X5_184⟩
  · exact ⟨by decide, by decide, rfl, wf_X5_190⟩
def fl_X0 : List (Nat × Nat × Nat) := [(9, 0, 4), (15, 0, 0), (18, 0, 1), (21, 0, 2), (27, 0, 3)]
theorem fl_X0_ok : fw_Fld RX0 fl_X0 := by
  intro q hq
  simp only [fl_X0, List.mem_cons, List.not_mem_nil, or_false] at hq
  rcases hq with rfl | rfl | rfl | rfl | rfl
  · exact ⟨by decide, by decide, rfl, wf_X0_9⟩
  · exact ⟨by decide, by decide, rfl, wf_X0_15⟩
  · exact ⟨by decide, by decide, rfl, wf_X0_18⟩
  · exact ⟨by decide, by decide, rfl, wf_X0_21⟩
  · exact ⟨by decide, by decide, rfl, wf_X0_27⟩
def fl_X1 : List (Nat × Nat × Nat) := [(11, 1, 7), (19, 1, 8), (23, 1, 1), (29, 1, 0), (32, 1, 2), (35, 1, 3), (38, 1, 4), (41, 1, 5), (44, 1, 6), (69, 0, 4), (72, 3, 4), (78, 0, 0), (92, 0, 3), (109, 0, 1), (112, 3, 1), (123, 3, 5), (131, 3, 6), (134, 3, 2), (137, 3, 3), (140, 3, 7), (144, 0, 2)]
theorem fl_X1_ok : fw_Fld RX1 fl_X1 := by
  intro q hq
  simp only [fl_X1, List.mem_cons, List.not_mem_nil, or_false] at hq
  rcases hq with rfl | rfl | rfl | rfl | rfl | rfl | rfl | rfl | rfl | rfl | rfl | rfl | rfl | rfl | rfl | rfl | rfl | rfl | rfl | rfl | rfl
  · exact ⟨by decide, by decide, rfl, wf_X1_11⟩
  · exact ⟨by decide, by decide, rfl, wf_X1_19⟩
  · exact ⟨by decide, by decide, rfl, wf_X1_23⟩
  · exact ⟨by decide, by decide, rfl, wf_X1_29⟩
  · exact ⟨by decide, by decide, rfl, wf_X1_32⟩
  · exact ⟨by decide, by decide, rfl, wf_X1_35⟩
  · exact ⟨by decide, by decide, rfl, wf_X1_38⟩
  · exact ⟨by decide, by decide, rfl, wf_X1_41⟩
  · exact ⟨by decide, by decide, rfl, wf_X1_44⟩
  · exact ⟨by decide, by decide, rfl, wf_X1_69⟩
  · exact ⟨by decide, by decide, rfl, wf_X1_72⟩
  · exact ⟨by decide, by decide, rfl, wf_X1_78⟩
  · exact ⟨by decide, by decide, rfl, wf_X1_92⟩
  · exact ⟨by decide, by decide, rfl, wf_X1_109⟩
  · exact ⟨by decide, by decide, rfl, wf_X1_112⟩
  · exact ⟨by decide, by decide, rfl, wf_X1_123⟩
  · exact ⟨by decide, by decide, rfl, wf_X1_131⟩
  · exact ⟨by decide, by decide, rfl, wf_X1_134⟩
  · exact ⟨by decide, by decide, rfl, wf_X1_137⟩
  · exact ⟨by decide, by decide, rfl, wf_X1_140⟩
  · exact ⟨by decide, by decide, rfl, wf_X1_144⟩
def fl_X2 : List (Nat × Nat × Nat) := [(11, 2, 0), (18, 2, 1), (22, 2, 2)]
theorem fl_X2_ok : fw_Fld RX2 fl_X2 := by
  intro q hq
  simp only [fl_X2, List.mem_cons, List.not_mem_nil, or_false] at hq
  rcases hq with rfl | rfl | rfl
  · exact ⟨by decide, by decide, rfl, wf_X2_11⟩
  · exact ⟨by decide, by decide, rfl, wf_X2_18⟩
  · exact ⟨by decide, by decide, rfl, wf_X2_22⟩
def fl_X3 : List (Nat × Nat × Nat) := [(9, 3, 8), (15, 3, 9), (18, 3, 0), (22, 3, 1), (25, 3, 2), (28, 3, 3), (31, 3, 4), (34, 3, 5), (37, 3, 6), (40, 3, 7)]
theorem fl_X3_ok : fw_Fld RX3 fl_X3 := by
  intro q hq
  simp only [fl_X3, List.mem_cons, List.not_mem_nil, or_false] at hq
  rcases hq with rfl | rfl | rfl | rfl | rfl | rfl | rfl | rfl | rfl | rfl
  · exact ⟨by decide, by decide, rfl, wf_X3_9⟩
  · exact ⟨by decide, by decide, rfl, wf_X3_15⟩
  · exact ⟨by decide, by decide, rfl, wf_X3_18⟩
  · exact ⟨by decide, by decide, rfl, wf_X3_22⟩
  · exact ⟨by decide, by decide, rfl, wf_X3_25⟩
  · exact ⟨by decide, by decide, rfl, wf_X3_28⟩
  · exact ⟨by decide, by decide, rfl, wf_X3_31⟩
  · exact ⟨by decide, by decide, rfl, wf_X3_34⟩
  · exact ⟨by decide, by decide, rfl, wf_X3_37⟩
  · exact ⟨by decide, by decide, rfl, wf_X3_40⟩
def fl_X4 : List (Nat × Nat × Nat) := [(9, 4, 0), (15, 4, 1), (18, 4, 2), (26, 4, 4), (29, 4, 3)]
theorem fl_X4_ok : fw_Fld RX4 fl_X4 := by
  intro q hq
  simp only [fl_X4, List.mem_cons, List.not_mem_nil, or_false] at hq
  rcases hq with rfl | rfl | rfl | rfl | rfl
  · exact ⟨by decide, by decide, rfl, wf_X4_9⟩
  · exact ⟨by decide, by decide, rfl, wf_X4_15⟩
  · exact ⟨by decide, by decide, rfl, wf_X4_18⟩
  · exact ⟨by decide, by decide, rfl, wf_X4_26⟩
  · exact ⟨by decide, by decide, rfl, wf_X4_29⟩
def fl_X6 : List (Nat × Nat × Nat) := [(7, 6, 0), (13, 6, 1), (16, 6, 2), (19, 6, 3), (22, 6, 5), (25, 6, 7), (33, 6, 4), (168, 6, 6), (171, 6, 8), (174, 6, 9), (189, 6, 10)]
theorem fl_X6_ok : fw_Fld RX6 fl_X6 := by
  intro q hq
  simp only [fl_X6, List.mem_cons, List.not_mem_nil, or_false] at hq
  rcases hq with rfl | rfl | rfl | rfl | rfl | rfl | rfl | rfl | rfl | rfl | rfl
  · exact ⟨by decide, by decide, rfl, wf_X6_7⟩
  · exact ⟨by decide, by decide, rfl, wf_X6_13⟩
  · exact ⟨by decide, by decide, rfl, wf_X6_16⟩
  · exact ⟨by decide, by decide, rfl, wf_X6_19⟩
  · exact ⟨by decide, by decide, rfl, wf_X6_22⟩
  · exact ⟨by decide, by decide, rfl, wf_X6_25⟩
  · exact ⟨by decide, by decide, rfl, wf_X6_33⟩
  · exact ⟨by decide, by decide, rfl, wf_X6_168⟩
  · exact ⟨by decide, by decide, rfl, wf_X6_171⟩
  · exact ⟨by decide, by decide, rfl, wf_X6_174⟩
  · exact ⟨by decide, by decide, rfl, wf_X6_189⟩
def kX0_begin : List fw_Ent := [
  (0, 1, .aload_n 0, 0, 0), (1, 1, .iload_n 1, 0, 0), (2, 3, .putfield 15, 0, 0), (5, 1, .aload_n 0, 0, 0),
  (6, 1, .iload_n 2, 0, 0), (7, 3, .putfield 18, 0, 0), (10, 1, .aload_n 0, 0, 0), (11, 1, .iconst 0, 0, 0),
  (12, 3, .putfield 21, 0, 0), (15, 1, .aload_n 0, 0, 0), (16, 3, .invokevirtual 24, 0, 0), (19, 1, .return_, 0, 0)]
theorem kX0_begin_ok : fw_chk cX0_begin 3 kX0_begin = true := by decide +kernel
theorem kX0_begin_cst : ∀ en ∈ kX0_begin, fw_CstOK RX0 cst_X0 en := by
  have h : kX0_begin.all (fw_cstq cp_X0) = true := by decide +kernel
  exact fun en he => fw_cstX cp_X0_ok cst_X0_ok (List.all_eq_true.mp h en he)
def kX0_become : List fw_Ent := [
  (0, 1, .aload_n 0, 0, 0), (1, 1, .aload_n 1, 0, 0), (2, 3, .getfield 15, 0, 0), (5, 3, .putfield 15, 0, 0),
  (8, 1, .aload_n 0, 0, 0), (9, 1, .aload_n 1, 0, 0), (10, 3, .getfield 18, 0, 0), (13, 3, .putfield 18, 0, 0),
  (16, 1, .aload_n 0, 0, 0), (17, 1, .aload_n 1, 0, 0), (18, 3, .getfield 21, 0, 0), (21, 3, .putfield 21, 0, 0),
  (24, 1, .aload_n 0, 0, 0), (25, 1, .aload_n 1, 0, 0), (26, 3, .getfield 27, 0, 0), (29, 3, .putfield 27, 0, 0),
  (32, 1, .aload_n 0, 0, 0), (33, 1, .aload_n 1, 0, 0), (34, 3, .getfield 9, 0, 0), (37, 3, .putfield 9, 0, 0),
  (40, 1, .return_, 0, 0)]
theorem kX0_become_ok : fw_chk cX0_become 2 kX0_become = true := by decide +kernel
theorem kX0_become_cst : ∀ en ∈ kX0_become, fw_CstOK RX0 cst_X0 en := by
  have h : kX0_become.all (fw_cstq cp_X0) = true := by decide +kernel
  exact fun en he => fw_cstX cp_X0_ok cst_X0_ok (List.all_eq_true.mp h en he)
def kX0_setFree : List fw_Ent := [
  (0, 1, .aload_n 0, 0, 0), (1, 1, .iconst 0, 0, 0), (2, 3, .putfield 27, 0, 0), (5, 1, .aload_n 0, 0, 0),
  (6, 1, .iconst (-1), (-1), 0), (7, 3, .putfield 9, 0, 0), (10, 1, .return_, 0, 0)]
theorem kX0_setFree_ok : fw_chk cX0_setFree 1 kX0_setFree = true := by decide +kernel
theorem kX0_setFree_cst : ∀ en ∈ kX0_setFree, fw_CstOK RX0 cst_X0 en := by
  have h : kX0_setFree.all (fw_cstq cp_X0) = true := by decide +kernel
  exact fun en he => fw_cstX cp_X0_ok cst_X0_ok (List.all_eq_true.mp h en he)
def kX1_become : List fw_Ent := [
  (0, 1, .aload_n 0, 0, 0), (1, 1, .aload_n 1, 0, 0), (2, 3, .getfield 29, 0, 0), (5, 3, .putfield 29, 0, 0),
  (8, 1, .aload_n 0, 0, 0), (9, 1, .aload_n 1, 0, 0), (10, 3, .getfield 23, 0, 0), (13, 3, .putfield 23, 0, 0),
  (16, 1, .aload_n 0, 0, 0), (17, 1, .aload_n 1, 0, 0), (18, 3, .getfield 32, 0, 0), (21, 3, .putfield 32, 0, 0),
  (24, 1, .aload_n 0, 0, 0), (25, 1, .aload_n 1, 0, 0), (26, 3, .getfield 35, 0, 0), (29, 3, .putfield 35, 0, 0),
  (32, 1, .aload_n 0, 0, 0), (33, 1, .aload_n 1, 0, 0), (34, 3, .getfield 38, 0, 0), (37, 3, .putfield 38, 0, 0),
  (40, 1, .aload_n 0, 0, 0), (41, 1, .aload_n 1, 0, 0), (42, 3, .getfield 41, 0, 0), (45, 3, .putfield 41, 0, 0),
  (48, 1, .aload_n 0, 0, 0), (49, 1, .aload_n 1, 0, 0), (50, 3, .getfield 44, 0, 0), (53, 3, .putfield 44, 0, 0),
  (56, 1, .iconst 0, 0, 0), (57, 1, .istore_n 2, 0, 0), (58, 1, .iload_n 2, 0, 0), (59, 1, .aload_n 0, 0, 0),
  (60, 3, .getfield 32, 0, 0), (63, 3, .if_icmp .ge 37, 0, 100), (66, 1, .aload_n 0, 0, 0), (67, 1, .iload_n 2, 0, 0),
  (68, 3, .invokevirtual 47, 0, 0), (71, 1, .astore_n 3, 0, 0), (72, 1, .aload_n 1, 0, 0), (73, 1, .iload_n 2, 0, 0),
  (74, 3, .invokevirtual 47, 0, 0), (77, 2, .astore 4, 0, 0), (79, 1, .aload_n 3, 0, 0), (80, 3, .ifnull 14, 0, 94),
  (83, 2, .aload 4, 0, 0), (85, 3, .ifnull 9, 0, 94), (88, 1, .aload_n 3, 0, 0), (89, 2, .aload 4, 0, 0),
  (91, 3, .invokevirtual 51, 0, 0), (94, 3, .iinc 2 1, 1, 0), (97, 3, .goto (-39), 0, 58), (100, 1, .iconst 0, 0, 0),
  (101, 1, .istore_n 2, 0, 0), (102, 1, .iload_n 2, 0, 0), (103, 1, .aload_n 0, 0, 0), (104, 3, .getfield 35, 0, 0),
  (107, 3, .if_icmp .ge 37, 0, 144), (110, 1, .aload_n 0, 0, 0), (111, 1, .iload_n 2, 0, 0), (112, 3, .invokevirtual 55, 0, 0),
  (115, 1, .astore_n 3, 0, 0), (116, 1, .aload_n 1, 0, 0), (117, 1, .iload_n 2, 0, 0), (118, 3, .invokevirtual 55, 0, 0),
  (121, 2, .astore 4, 0, 0), (123, 1, .aload_n 3, 0, 0), (124, 3, .ifnull 14, 0, 138), (127, 2, .aload 4, 0, 0),
  (129, 3, .ifnull 9, 0, 138), (132, 1, .aload_n 3, 0, 0), (133, 2, .aload 4, 0, 0), (135, 3, .invokevirtual 59, 0, 0),
  (138, 3, .iinc 2 1, 1, 0), (141, 3, .goto (-39), 0, 102), (144, 1, .return_, 0, 0)]
theorem kX1_become_ok : fw_chk cX1_become 5 kX1_become = true := by decide +kernel
theorem kX1_become_cst : ∀ en ∈ kX1_become, fw_CstOK RX1 cst_X1 en := by
  have h : kX1_become.all (fw_cstq cp_X1) = true := by decide +kernel
  exact fun en he => fw_cstX cp_X1_ok cst_X1_ok (List.all_eq_true.mp h en he)
def kX1_courierAt : List fw_Ent := [
  (0, 1, .iload_n 1, 0, 0), (1, 3, .ifCond .lt 20, 0, 21), (4, 1, .iload_n 1, 0, 0), (5, 1, .aload_n 0, 0, 0),
  (6, 3, .getfield 32, 0, 0), (9, 3, .if_icmp .ge 12, 0, 21), (12, 1, .iload_n 1, 0, 0), (13, 1, .aload_n 0, 0, 0),
  (14, 3, .getfield 11, 0, 0), (17, 1, .arraylength, 0, 0), (18, 3, .if_icmp .lt 5, 0, 23), (21, 1, .aconst_null, 0, 0),
  (22, 1, .areturn, 0, 0), (23, 1, .aload_n 0, 0, 0), (24, 3, .getfield 11, 0, 0), (27, 1, .iload_n 1, 0, 0),
  (28, 1, .aaload, 0, 0), (29, 1, .areturn, 0, 0)]
theorem kX1_courierAt_ok : fw_chk cX1_courierAt 2 kX1_courierAt = true := by decide +kernel
theorem kX1_courierAt_cst : ∀ en ∈ kX1_courierAt, fw_CstOK RX1 cst_X1 en := by
  have h : kX1_courierAt.all (fw_cstq cp_X1) = true := by decide +kernel
  exact fun en he => fw_cstX cp_X1_ok cst_X1_ok (List.all_eq_true.mp h en he)
def kX1_parcelAt : List fw_Ent := [
  (0, 1, .iload_n 1, 0, 0), (1, 3, .ifCond .lt 20, 0, 21), (4, 1, .iload_n 1, 0, 0), (5, 1, .aload_n 0, 0, 0),
  (6, 3, .getfield 35, 0, 0), (9, 3, .if_icmp .ge 12, 0, 21), (12, 1, .iload_n 1, 0, 0), (13, 1, .aload_n 0, 0, 0),
  (14, 3, .getfield 19, 0, 0), (17, 1, .arraylength, 0, 0), (18, 3, .if_icmp .lt 5, 0, 23), (21, 1, .aconst_null, 0, 0),
  (22, 1, .areturn, 0, 0), (23, 1, .aload_n 0, 0, 0), (24, 3, .getfield 19, 0, 0), (27, 1, .iload_n 1, 0, 0),
  (28, 1, .aaload, 0, 0), (29, 1, .areturn, 0, 0)]
theorem kX1_parcelAt_ok : fw_chk cX1_parcelAt 2 kX1_parcelAt = true := by decide +kernel
theorem kX1_parcelAt_cst : ∀ en ∈ kX1_parcelAt, fw_CstOK RX1 cst_X1 en := by
  have h : kX1_parcelAt.all (fw_cstq cp_X1) = true := by decide +kernel
  exact fun en he => fw_cstX cp_X1_ok cst_X1_ok (List.all_eq_true.mp h en he)
def kX1_join : List fw_Ent := [
  (0, 1, .aload_n 0, 0, 0), (1, 3, .getfield 32, 0, 0), (4, 1, .istore_n 3, 0, 0), (5, 1, .aload_n 0, 0, 0),
  (6, 1, .dup, 0, 0), (7, 3, .getfield 32, 0, 0), (10, 1, .iconst 1, 1, 0), (11, 1, .iadd, 0, 0),
  (12, 3, .putfield 32, 0, 0), (15, 1, .aload_n 0, 0, 0), (16, 1, .iload_n 3, 0, 0), (17, 3, .invokevirtual 47, 0, 0),
  (20, 2, .astore 4, 0, 0), (22, 2, .aload 4, 0, 0), (24, 3, .ifnull 10, 0, 34), (27, 2, .aload 4, 0, 0),
  (29, 1, .iload_n 1, 0, 0), (30, 1, .iload_n 2, 0, 0), (31, 3, .invokevirtual 62, 0, 0), (34, 1, .iload_n 3, 0, 0),
  (35, 1, .ireturn, 0, 0)]
theorem kX1_join_ok : fw_chk cX1_join 5 kX1_join = true := by decide +kernel
theorem kX1_join_cst : ∀ en ∈ kX1_join, fw_CstOK RX1 cst_X1 en := by
  have h : kX1_join.all (fw_cstq cp_X1) = true := by decide +kernel
  exact fun en he => fw_cstX cp_X1_ok cst_X1_ok (List.all_eq_true.mp h en he)
def kX1_accept : List fw_Ent := [
  (0, 1, .aload_n 0, 0, 0), (1, 3, .getfield 35, 0, 0), (4, 2, .istore 5, 0, 0), (6, 1, .aload_n 0, 0, 0),
  (7, 1, .dup, 0, 0), (8, 3, .getfield 35, 0, 0), (11, 1, .iconst 1, 1, 0), (12, 1, .iadd, 0, 0),
  (13, 3, .putfield 35, 0, 0), (16, 1, .aload_n 0, 0, 0), (17, 2, .iload 5, 0, 0), (19, 3, .invokevirtual 55, 0, 0),
  (22, 2, .astore 6, 0, 0), (24, 2, .aload 6, 0, 0), (26, 3, .ifnull 13, 0, 39), (29, 2, .aload 6, 0, 0),
  (31, 1, .iload_n 1, 0, 0), (32, 1, .iload_n 2, 0, 0), (33, 1, .iload_n 3, 0, 0), (34, 2, .iload 4, 0, 0),
  (36, 3, .invokevirtual 66, 0, 0), (39, 2, .iload 5, 0, 0), (41, 1, .ireturn, 0, 0)]
theorem kX1_accept_ok : fw_chk cX1_accept 7 kX1_accept = true := by decide +kernel
theorem kX1_accept_cst : ∀ en ∈ kX1_accept, fw_CstOK RX1 cst_X1 en := by
  have h : kX1_accept.all (fw_cstq cp_X1) = true := by decide +kernel
  exact fun en he => fw_cstX cp_X1_ok cst_X1_ok (List.all_eq_true.mp h en he)
def kX1_release : List fw_Ent := [
  (0, 1, .aload_n 0, 0, 0), (1, 1, .aload_n 1, 0, 0), (2, 3, .getfield 69, 0, 0), (5, 3, .invokevirtual 55, 0, 0),
  (8, 1, .astore_n 2, 0, 0), (9, 1, .aload_n 2, 0, 0), (10, 3, .ifnull 16, 0, 26), (13, 1, .aload_n 2, 0, 0),
  (14, 3, .getfield 72, 0, 0), (17, 1, .iconst 1, 1, 0), (18, 3, .if_icmp .ne 8, 0, 26), (21, 1, .aload_n 2, 0, 0),
  (22, 1, .iconst 0, 0, 0), (23, 3, .putfield 72, 0, 0), (26, 1, .aload_n 1, 0, 0), (27, 3, .invokevirtual 75, 0, 0),
  (30, 1, .return_, 0, 0)]
theorem kX1_release_ok : fw_chk cX1_release 3 kX1_release = true := by decide +kernel
theorem kX1_release_cst : ∀ en ∈ kX1_release, fw_CstOK RX1 cst_X1 en := by
  have h : kX1_release.all (fw_cstq cp_X1) = true := by decide +kernel
  exact fun en he => fw_cstX cp_X1_ok cst_X1_ok (List.all_eq_true.mp h en he)
def kX1_widen : List fw_Ent := [
  (0, 1, .aload_n 0, 0, 0), (1, 1, .iload_n 1, 0, 0), (2, 3, .invokevirtual 47, 0, 0), (5, 1, .astore_n 3, 0, 0),
  (6, 1, .aload_n 3, 0, 0), (7, 3, .ifnull 15, 0, 22), (10, 1, .aload_n 3, 0, 0), (11, 1, .dup, 0, 0),
  (12, 3, .getfield 78, 0, 0), (15, 1, .iconst 1, 1, 0), (16, 1, .iload_n 2, 0, 0), (17, 1, .ishl, 0, 0),
  (18, 1, .ior, 0, 0), (19, 3, .putfield 78, 0, 0), (22, 1, .return_, 0, 0)]
theorem kX1_widen_ok : fw_chk cX1_widen 4 kX1_widen = true := by decide +kernel
theorem kX1_widen_cst : ∀ en ∈ kX1_widen, fw_CstOK RX1 cst_X1 en := by
  have h : kX1_widen.all (fw_cstq cp_X1) = true := by decide +kernel
  exact fun en he => fw_cstX cp_X1_ok cst_X1_ok (List.all_eq_true.mp h en he)
def kX1_retire : List fw_Ent := [
  (0, 1, .aload_n 0, 0, 0), (1, 1, .iload_n 1, 0, 0), (2, 3, .invokevirtual 47, 0, 0), (5, 1, .astore_n 2, 0, 0),
  (6, 1, .aload_n 2, 0, 0), (7, 3, .ifnull 13, 0, 20), (10, 1, .aload_n 0, 0, 0), (11, 1, .aload_n 2, 0, 0),
  (12, 3, .invokevirtual 81, 0, 0), (15, 1, .aload_n 2, 0, 0), (16, 1, .iconst 0, 0, 0), (17, 3, .putfield 78, 0, 0),
  (20, 1, .return_, 0, 0)]
theorem kX1_retire_ok : fw_chk cX1_retire 3 kX1_retire = true := by decide +kernel
theorem kX1_retire_cst : ∀ en ∈ kX1_retire, fw_CstOK RX1 cst_X1 en := by
  have h : kX1_retire.all (fw_cstq cp_X1) = true := by decide +kernel
  exact fun en he => fw_cstX cp_X1_ok cst_X1_ok (List.all_eq_true.mp h en he)
def kX1_pass : List fw_Ent := [
  (0, 1, .aload_n 0, 0, 0), (1, 3, .getfield 38, 0, 0), (4, 1, .istore_n 2, 0, 0), (5, 1, .iconst 1, 1, 0),
  (6, 1, .istore_n 3, 0, 0), (7, 1, .iconst 0, 0, 0), (8, 2, .istore 4, 0, 0), (10, 2, .iload 4, 0, 0),
  (12, 1, .iload_n 1, 0, 0), (13, 3, .if_icmp .ge 15, 0, 28), (16, 1, .aload_n 0, 0, 0), (17, 1, .iload_n 3, 0, 0),
  (18, 3, .invokevirtual 84, 0, 0), (21, 1, .istore_n 3, 0, 0), (22, 3, .iinc 4 1, 1, 0), (25, 3, .goto (-15), 0, 10),
  (28, 1, .aload_n 0, 0, 0), (29, 3, .getfield 38, 0, 0), (32, 1, .iload_n 2, 0, 0), (33, 1, .isub, 0, 0),
  (34, 1, .ireturn, 0, 0)]
theorem kX1_pass_ok : fw_chk cX1_pass 5 kX1_pass = true := by decide +kernel
theorem kX1_pass_cst : ∀ en ∈ kX1_pass, fw_CstOK RX1 cst_X1 en := by
  have h : kX1_pass.all (fw_cstq cp_X1) = true := by decide +kernel
  exact fun en he => fw_cstX cp_X1_ok cst_X1_ok (List.all_eq_true.mp h en he)
def kX1_ticksUntilDone : List fw_Ent := [
  (0, 1, .iconst 1, 1, 0), (1, 1, .istore_n 1, 0, 0), (2, 1, .iconst 0, 0, 0), (3, 1, .istore_n 2, 0, 0),
  (4, 1, .iload_n 2, 0, 0), (5, 3, .sipush 1200, 1200, 0), (8, 3, .if_icmp .gt 33, 0, 41), (11, 1, .aload_n 0, 0, 0),
  (12, 1, .iconst 0, 0, 0), (13, 3, .invokevirtual 88, 0, 0), (16, 3, .ifCond .ne 13, 0, 29), (19, 1, .aload_n 0, 0, 0),
  (20, 1, .iconst 1, 1, 0), (21, 3, .invokevirtual 88, 0, 0), (24, 3, .ifCond .ne 5, 0, 29), (27, 1, .iload_n 2, 0, 0),
  (28, 1, .ireturn, 0, 0), (29, 1, .aload_n 0, 0, 0), (30, 1, .iload_n 1, 0, 0), (31, 3, .invokevirtual 84, 0, 0),
  (34, 1, .istore_n 1, 0, 0), (35, 3, .iinc 2 1, 1, 0), (38, 3, .goto (-34), 0, 4), (41, 1, .iconst (-1), (-1), 0),
  (42, 1, .ireturn, 0, 0)]
theorem kX1_ticksUntilDone_ok : fw_chk cX1_ticksUntilDone 3 kX1_ticksUntilDone = true := by decide +kernel
theorem kX1_ticksUntilDone_cst : ∀ en ∈ kX1_ticksUntilDone, fw_CstOK RX1 cst_X1 en := by
  have h : kX1_ticksUntilDone.all (fw_cstq cp_X1) = true := by decide +kernel
  exact fun en he => fw_cstX cp_X1_ok cst_X1_ok (List.all_eq_true.mp h en he)
def kX1_tick : List fw_Ent := [
  (0, 1, .iconst 0, 0, 0), (1, 1, .istore_n 2, 0, 0), (2, 1, .aload_n 0, 0, 0), (3, 1, .dup, 0, 0),
  (4, 3, .getfield 29, 0, 0), (7, 1, .iconst 1, 1, 0), (8, 1, .iadd, 0, 0), (9, 3, .putfield 29, 0, 0),
  (12, 1, .iconst 0, 0, 0), (13, 1, .istore_n 3, 0, 0), (14, 1, .iload_n 1, 0, 0), (15, 3, .ifCond .eq 143, 0, 158),
  (18, 1, .iload_n 3, 0, 0), (19, 1, .aload_n 0, 0, 0), (20, 3, .getfield 32, 0, 0), (23, 3, .if_icmp .ge 135, 0, 158),
  (26, 1, .aload_n 0, 0, 0), (27, 1, .iload_n 3, 0, 0), (28, 3, .invokevirtual 47, 0, 0), (31, 2, .astore 4, 0, 0),
  (33, 2, .aload 4, 0, 0), (35, 3, .ifnull 117, 0, 152), (38, 2, .aload 4, 0, 0), (40, 3, .getfield 92, 0, 0),
  (43, 3, .ifCond .ne 7, 0, 50), (46, 1, .iconst 1, 1, 0), (47, 3, .goto 4, 0, 51), (50, 1, .iconst 0, 0, 0),
  (51, 2, .istore 5, 0, 0), (53, 1, .aload_n 0, 0, 0), (54, 2, .aload 4, 0, 0), (56, 3, .getfield 69, 0, 0),
  (59, 3, .invokevirtual 55, 0, 0), (62, 2, .astore 6, 0, 0), (64, 2, .aload 6, 0, 0), (66, 3, .ifnull 24, 0, 90),
  (69, 2, .aload 4, 0, 0), (71, 3, .getfield 92, 0, 0), (74, 1, .iconst 2, 2, 0), (75, 3, .if_icmp .ne 15, 0, 90),
  (78, 1, .aload_n 0, 0, 0), (79, 2, .aload 4, 0, 0), (81, 1, .iload_n 3, 0, 0), (82, 2, .aload 6, 0, 0),
  (84, 3, .invokevirtual 95, 0, 0), (87, 3, .goto 42, 0, 129), (90, 2, .aload 6, 0, 0), (92, 3, .ifnull 31, 0, 123),
  (95, 2, .aload 4, 0, 0), (97, 3, .getfield 92, 0, 0), (100, 1, .iconst 1, 1, 0), (101, 3, .if_icmp .ne 22, 0, 123),
  (104, 2, .aload 6, 0, 0), (106, 3, .getfield 72, 0, 0), (109, 3, .ifCond .ne 14, 0, 123), (112, 1, .aload_n 0, 0, 0),
  (113, 2, .aload 4, 0, 0), (115, 2, .aload 6, 0, 0), (117, 3, .invokevirtual 99, 0, 0), (120, 3, .goto 9, 0, 129),
  (123, 1, .aload_n 0, 0, 0), (124, 2, .aload 4, 0, 0), (126, 3, .invokevirtual 103, 0, 0), (129, 1, .iload_n 2, 0, 0),
  (130, 3, .ifCond .ne 16, 0, 146), (133, 2, .iload 5, 0, 0), (135, 3, .ifCond .eq 11, 0, 146), (138, 2, .aload 4, 0, 0),
  (140, 3, .getfield 92, 0, 0), (143, 3, .ifCond .eq 7, 0, 150), (146, 1, .iconst 1, 1, 0), (147, 3, .goto 4, 0, 151),
  (150, 1, .iconst 0, 0, 0), (151, 1, .istore_n 2, 0, 0), (152, 3, .iinc 3 1, 1, 0), (155, 3, .goto (-141), 0, 14),
  (158, 1, .aload_n 0, 0, 0), (159, 3, .invokevirtual 106, 0, 0), (162, 1, .iload_n 2, 0, 0), (163, 1, .ireturn, 0, 0)]
theorem kX1_tick_ok : fw_chk cX1_tick 7 kX1_tick = true := by decide +kernel
theorem kX1_tick_cst : ∀ en ∈ kX1_tick, fw_CstOK RX1 cst_X1 en := by
  have h : kX1_tick.all (fw_cstq cp_X1) = true := by decide +kernel
  exact fun en he => fw_cstX cp_X1_ok cst_X1_ok (List.all_eq_true.mp h en he)
def kX1_carry : List fw_Ent := [
  (0, 1, .aload_n 1, 0, 0), (1, 3, .getfield 109, 0, 0), (4, 1, .aload_n 3, 0, 0), (5, 3, .getfield 112, 0, 0),
  (8, 3, .invokestatic 115, 0, 0), (11, 2, .istore 4, 0, 0), (13, 1, .aload_n 1, 0, 0), (14, 3, .getfield 78, 0, 0),
  (17, 2, .iload 4, 0, 0), (19, 3, .invokestatic 119, 0, 0), (22, 3, .ifCond .ne 23, 0, 45), (25, 1, .aload_n 3, 0, 0),
  (26, 1, .iconst 0, 0, 0), (27, 3, .putfield 72, 0, 0), (30, 1, .aload_n 0, 0, 0), (31, 1, .dup, 0, 0),
  (32, 3, .getfield 41, 0, 0), (35, 1, .iconst 1, 1, 0), (36, 1, .iadd, 0, 0), (37, 3, .putfield 41, 0, 0),
  (40, 1, .aload_n 1, 0, 0), (41, 3, .invokevirtual 75, 0, 0), (44, 1, .return_, 0, 0), (45, 1, .aload_n 1, 0, 0),
  (46, 2, .iload 4, 0, 0), (48, 3, .putfield 109, 0, 0), (51, 1, .aload_n 0, 0, 0), (52, 1, .dup, 0, 0),
  (53, 3, .getfield 44, 0, 0), (56, 1, .iconst 1, 1, 0), (57, 1, .iadd, 0, 0), (58, 3, .putfield 44, 0, 0),
  (61, 1, .aload_n 3, 0, 0), (62, 2, .iload 4, 0, 0), (64, 3, .putfield 123, 0, 0), (67, 1, .aload_n 3, 0, 0),
  (68, 1, .iload_n 2, 0, 0), (69, 3, .invokevirtual 124, 0, 0), (72, 2, .iload 4, 0, 0), (74, 1, .aload_n 3, 0, 0),
  (75, 3, .getfield 112, 0, 0), (78, 3, .if_icmp .ne 12, 0, 90), (81, 1, .aload_n 0, 0, 0), (82, 1, .aload_n 3, 0, 0),
  (83, 3, .invokevirtual 128, 0, 0), (86, 1, .aload_n 1, 0, 0), (87, 3, .invokevirtual 75, 0, 0), (90, 1, .return_, 0, 0)]
theorem kX1_carry_ok : fw_chk cX1_carry 5 kX1_carry = true := by decide +kernel
theorem kX1_carry_cst : ∀ en ∈ kX1_carry, fw_CstOK RX1 cst_X1 en := by
  have h : kX1_carry.all (fw_cstq cp_X1) = true := by decide +kernel
  exact fun en he => fw_cstX cp_X1_ok cst_X1_ok (List.all_eq_true.mp h en he)
def kX1_deliver : List fw_Ent := [
  (0, 1, .aload_n 1, 0, 0), (1, 1, .iconst 2, 2, 0), (2, 3, .putfield 72, 0, 0), (5, 1, .aload_n 1, 0, 0),
  (6, 1, .aload_n 0, 0, 0), (7, 3, .getfield 29, 0, 0), (10, 3, .putfield 131, 0, 0), (13, 1, .aload_n 1, 0, 0),
  (14, 1, .aload_n 0, 0, 0), (15, 3, .getfield 29, 0, 0), (18, 1, .aload_n 1, 0, 0), (19, 3, .getfield 134, 0, 0),
  (22, 3, .if_icmp .gt 10, 0, 32), (25, 1, .aload_n 1, 0, 0), (26, 3, .getfield 137, 0, 0), (29, 3, .goto 9, 0, 38),
  (32, 1, .aload_n 1, 0, 0), (33, 3, .getfield 137, 0, 0), (36, 1, .iconst 2, 2, 0), (37, 1, .idiv, 0, 0),
  (38, 3, .putfield 140, 0, 0), (41, 1, .aload_n 0, 0, 0), (42, 1, .dup, 0, 0), (43, 3, .getfield 38, 0, 0),
  (46, 1, .aload_n 1, 0, 0), (47, 3, .getfield 140, 0, 0), (50, 1, .iadd, 0, 0), (51, 3, .putfield 38, 0, 0),
  (54, 1, .aload_n 1, 0, 0), (55, 3, .invokevirtual 141, 0, 0), (58, 1, .iconst 0, 0, 0), (59, 1, .istore_n 2, 0, 0),
  (60, 1, .iload_n 2, 0, 0), (61, 1, .aload_n 0, 0, 0), (62, 3, .getfield 32, 0, 0), (65, 3, .if_icmp .ge 33, 0, 98),
  (68, 1, .aload_n 0, 0, 0), (69, 1, .iload_n 2, 0, 0), (70, 3, .invokevirtual 47, 0, 0), (73, 1, .astore_n 3, 0, 0),
  (74, 1, .aload_n 3, 0, 0), (75, 3, .ifnull 17, 0, 92), (78, 1, .aload_n 3, 0, 0), (79, 1, .dup, 0, 0),
  (80, 3, .getfield 144, 0, 0), (83, 1, .aload_n 1, 0, 0), (84, 1, .iload_n 2, 0, 0), (85, 3, .invokevirtual 147, 0, 0),
  (88, 1, .iadd, 0, 0), (89, 3, .putfield 144, 0, 0), (92, 3, .iinc 2 1, 1, 0), (95, 3, .goto (-35), 0, 60),
  (98, 1, .return_, 0, 0)]
theorem kX1_deliver_ok : fw_chk cX1_deliver 4 kX1_deliver = true := by decide +kernel
theorem kX1_deliver_cst : ∀ en ∈ kX1_deliver, fw_CstOK RX1 cst_X1 en := by
  have h : kX1_deliver.all (fw_cstq cp_X1) = true := by decide +kernel
  exact fun en he => fw_cstX cp_X1_ok cst_X1_ok (List.all_eq_true.mp h en he)
def kX1_approach : List fw_Ent := [
  (0, 1, .aload_n 1, 0, 0), (1, 3, .getfield 109, 0, 0), (4, 1, .aload_n 2, 0, 0), (5, 3, .getfield 123, 0, 0),
  (8, 3, .if_icmp .ne 16, 0, 24), (11, 1, .aload_n 1, 0, 0), (12, 1, .iconst 2, 2, 0), (13, 3, .putfield 92, 0, 0),
  (16, 1, .aload_n 2, 0, 0), (17, 1, .iconst 1, 1, 0), (18, 3, .putfield 72, 0, 0), (21, 3, .goto 28, 0, 49),
  (24, 1, .aload_n 1, 0, 0), (25, 1, .aload_n 1, 0, 0), (26, 3, .getfield 109, 0, 0), (29, 1, .aload_n 2, 0, 0),
  (30, 3, .getfield 123, 0, 0), (33, 3, .invokestatic 115, 0, 0), (36, 3, .putfield 109, 0, 0), (39, 1, .aload_n 0, 0, 0),
  (40, 1, .dup, 0, 0), (41, 3, .getfield 44, 0, 0), (44, 1, .iconst 1, 1, 0), (45, 1, .iadd, 0, 0),
  (46, 3, .putfield 44, 0, 0), (49, 1, .return_, 0, 0)]
theorem kX1_approach_ok : fw_chk cX1_approach 3 kX1_approach = true := by decide +kernel
theorem kX1_approach_cst : ∀ en ∈ kX1_approach, fw_CstOK RX1 cst_X1 en := by
  have h : kX1_approach.all (fw_cstq cp_X1) = true := by decide +kernel
  exact fun en he => fw_cstX cp_X1_ok cst_X1_ok (List.all_eq_true.mp h en he)
def kX1_choose : List fw_Ent := [
  (0, 1, .aload_n 1, 0, 0), (1, 3, .invokevirtual 75, 0, 0), (4, 1, .iconst (-1), (-1), 0), (5, 1, .istore_n 2, 0, 0),
  (6, 3, .sipush 1000, 1000, 0), (9, 1, .istore_n 3, 0, 0), (10, 1, .iconst 0, 0, 0), (11, 2, .istore 4, 0, 0),
  (13, 2, .iload 4, 0, 0), (15, 1, .aload_n 0, 0, 0), (16, 3, .getfield 35, 0, 0), (19, 3, .if_icmp .ge 69, 0, 88),
  (22, 1, .aload_n 0, 0, 0), (23, 2, .iload 4, 0, 0), (25, 3, .invokevirtual 55, 0, 0), (28, 2, .astore 5, 0, 0),
  (30, 2, .aload 5, 0, 0), (32, 3, .ifnull 50, 0, 82), (35, 2, .aload 5, 0, 0), (37, 3, .getfield 72, 0, 0),
  (40, 3, .ifCond .ne 42, 0, 82), (43, 2, .aload 5, 0, 0), (45, 3, .getfield 134, 0, 0), (48, 1, .iload_n 3, 0, 0),
  (49, 3, .if_icmp .ge 33, 0, 82), (52, 2, .aload 5, 0, 0), (54, 1, .aload_n 1, 0, 0), (55, 3, .getfield 78, 0, 0),
  (58, 3, .invokevirtual 150, 0, 0), (61, 3, .ifCond .eq 21, 0, 82), (64, 1, .aload_n 0, 0, 0), (65, 2, .iload 4, 0, 0),
  (67, 3, .invokevirtual 154, 0, 0), (70, 3, .ifCond .ne 12, 0, 82), (73, 2, .iload 4, 0, 0), (75, 1, .istore_n 2, 0, 0),
  (76, 2, .aload 5, 0, 0), (78, 3, .getfield 134, 0, 0), (81, 1, .istore_n 3, 0, 0), (82, 3, .iinc 4 1, 1, 0),
  (85, 3, .goto (-72), 0, 13), (88, 1, .iload_n 2, 0, 0), (89, 1, .iconst (-1), (-1), 0), (90, 3, .if_icmp .eq 13, 0, 103),
  (93, 1, .aload_n 1, 0, 0), (94, 1, .iconst 1, 1, 0), (95, 3, .putfield 92, 0, 0), (98, 1, .aload_n 1, 0, 0),
  (99, 1, .iload_n 2, 0, 0), (100, 3, .putfield 69, 0, 0), (103, 1, .return_, 0, 0)]
theorem kX1_choose_ok : fw_chk cX1_choose 6 kX1_choose = true := by decide +kernel
theorem kX1_choose_cst : ∀ en ∈ kX1_choose, fw_CstOK RX1 cst_X1 en := by
  have h : kX1_choose.all (fw_cstq cp_X1) = true := by decide +kernel
  exact fun en he => fw_cstX cp_X1_ok cst_X1_ok (List.all_eq_true.mp h en he)
def kX1_isSought : List fw_Ent := [
  (0, 1, .iconst 0, 0, 0), (1, 1, .istore_n 2, 0, 0), (2, 1, .iload_n 2, 0, 0), (3, 1, .aload_n 0, 0, 0),
  (4, 3, .getfield 32, 0, 0), (7, 3, .if_icmp .ge 29, 0, 36), (10, 1, .aload_n 0, 0, 0), (11, 1, .iload_n 2, 0, 0),
  (12, 3, .invokevirtual 47, 0, 0), (15, 1, .astore_n 3, 0, 0), (16, 1, .aload_n 3, 0, 0), (17, 3, .ifnull 13, 0, 30),
  (20, 1, .aload_n 3, 0, 0), (21, 3, .getfield 69, 0, 0), (24, 1, .iload_n 1, 0, 0), (25, 3, .if_icmp .ne 5, 0, 30),
  (28, 1, .iconst 1, 1, 0), (29, 1, .ireturn, 0, 0), (30, 3, .iinc 2 1, 1, 0), (33, 3, .goto (-31), 0, 2),
  (36, 1, .iconst 0, 0, 0), (37, 1, .ireturn, 0, 0)]
theorem kX1_isSought_ok : fw_chk cX1_isSought 4 kX1_isSought = true := by decide +kernel
theorem kX1_isSought_cst : ∀ en ∈ kX1_isSought, fw_CstOK RX1 cst_X1 en := by
  have h : kX1_isSought.all (fw_cstq cp_X1) = true := by decide +kernel
  exact fun en he => fw_cstX cp_X1_ok cst_X1_ok (List.all_eq_true.mp h en he)
def kX1_failLateParcels : List fw_Ent := [
  (0, 1, .iconst 0, 0, 0), (1, 1, .istore_n 1, 0, 0), (2, 1, .iload_n 1, 0, 0), (3, 1, .aload_n 0, 0, 0),
  (4, 3, .getfield 35, 0, 0), (7, 3, .if_icmp .ge 52, 0, 59), (10, 1, .aload_n 0, 0, 0), (11, 1, .iload_n 1, 0, 0),
  (12, 3, .invokevirtual 55, 0, 0), (15, 1, .astore_n 2, 0, 0), (16, 1, .aload_n 2, 0, 0), (17, 3, .ifnull 36, 0, 53),
  (20, 1, .aload_n 2, 0, 0), (21, 3, .invokevirtual 157, 0, 0), (24, 3, .ifCond .eq 29, 0, 53), (27, 1, .aload_n 2, 0, 0),
  (28, 3, .getfield 134, 0, 0), (31, 1, .aload_n 0, 0, 0), (32, 3, .getfield 23, 0, 0), (35, 1, .iadd, 0, 0),
  (36, 1, .aload_n 0, 0, 0), (37, 3, .getfield 29, 0, 0), (40, 3, .if_icmp .ge 13, 0, 53), (43, 1, .aload_n 2, 0, 0),
  (44, 1, .iconst 3, 3, 0), (45, 3, .putfield 72, 0, 0), (48, 1, .aload_n 0, 0, 0), (49, 1, .iload_n 1, 0, 0),
  (50, 3, .invokevirtual 161, 0, 0), (53, 3, .iinc 1 1, 1, 0), (56, 3, .goto (-54), 0, 2), (59, 1, .return_, 0, 0)]
theorem kX1_failLateParcels_ok : fw_chk cX1_failLateParcels 3 kX1_failLateParcels = true := by decide +kernel
theorem kX1_failLateParcels_cst : ∀ en ∈ kX1_failLateParcels, fw_CstOK RX1 cst_X1 en := by
  have h : kX1_failLateParcels.all (fw_cstq cp_X1) = true := by decide +kernel
  exact fun en he => fw_cstX cp_X1_ok cst_X1_ok (List.all_eq_true.mp h en he)
def kX1_freeCouriersOf : List fw_Ent := [
  (0, 1, .iconst 0, 0, 0), (1, 1, .istore_n 2, 0, 0), (2, 1, .iload_n 2, 0, 0), (3, 1, .aload_n 0, 0, 0),
  (4, 3, .getfield 32, 0, 0), (7, 3, .if_icmp .ge 31, 0, 38), (10, 1, .aload_n 0, 0, 0), (11, 1, .iload_n 2, 0, 0),
  (12, 3, .invokevirtual 47, 0, 0), (15, 1, .astore_n 3, 0, 0), (16, 1, .aload_n 3, 0, 0), (17, 3, .ifnull 15, 0, 32),
  (20, 1, .aload_n 3, 0, 0), (21, 3, .getfield 69, 0, 0), (24, 1, .iload_n 1, 0, 0), (25, 3, .if_icmp .ne 7, 0, 32),
  (28, 1, .aload_n 3, 0, 0), (29, 3, .invokevirtual 75, 0, 0), (32, 3, .iinc 2 1, 1, 0), (35, 3, .goto (-33), 0, 2),
  (38, 1, .return_, 0, 0)]
theorem kX1_freeCouriersOf_ok : fw_chk cX1_freeCouriersOf 4 kX1_freeCouriersOf = true := by decide +kernel
theorem kX1_freeCouriersOf_cst : ∀ en ∈ kX1_freeCouriersOf, fw_CstOK RX1 cst_X1 en := by
  have h : kX1_freeCouriersOf.all (fw_cstq cp_X1) = true := by decide +kernel
  exact fun en he => fw_cstX cp_X1_ok cst_X1_ok (List.all_eq_true.mp h en he)
def kX1_carriersOf : List fw_Ent := [
  (0, 1, .iconst 0, 0, 0), (1, 1, .istore_n 3, 0, 0), (2, 1, .iconst 0, 0, 0), (3, 2, .istore 4, 0, 0),
  (5, 2, .iload 4, 0, 0), (7, 1, .aload_n 0, 0, 0), (8, 3, .getfield 32, 0, 0), (11, 3, .if_icmp .ge 53, 0, 64),
  (14, 1, .aload_n 0, 0, 0), (15, 2, .iload 4, 0, 0), (17, 3, .invokevirtual 47, 0, 0), (20, 2, .astore 5, 0, 0),
  (22, 2, .aload 5, 0, 0), (24, 3, .ifnull 34, 0, 58), (27, 2, .aload 5, 0, 0), (29, 3, .getfield 78, 0, 0),
  (32, 1, .iload_n 1, 0, 0), (33, 3, .invokestatic 119, 0, 0), (36, 3, .ifCond .eq 22, 0, 58), (39, 2, .aload 5, 0, 0),
  (41, 3, .getfield 78, 0, 0), (44, 1, .iload_n 2, 0, 0), (45, 3, .invokestatic 119, 0, 0), (48, 3, .ifCond .eq 10, 0, 58),
  (51, 1, .iload_n 3, 0, 0), (52, 1, .iconst 1, 1, 0), (53, 2, .iload 4, 0, 0), (55, 1, .ishl, 0, 0),
  (56, 1, .ior, 0, 0), (57, 1, .istore_n 3, 0, 0), (58, 3, .iinc 4 1, 1, 0), (61, 3, .goto (-56), 0, 5),
  (64, 1, .iload_n 3, 0, 0), (65, 1, .ireturn, 0, 0)]
theorem kX1_carriersOf_ok : fw_chk cX1_carriersOf 6 kX1_carriersOf = true := by decide +kernel
theorem kX1_carriersOf_cst : ∀ en ∈ kX1_carriersOf, fw_CstOK RX1 cst_X1 en := by
  have h : kX1_carriersOf.all (fw_cstq cp_X1) = true := by decide +kernel
  exact fun en he => fw_cstX cp_X1_ok cst_X1_ok (List.all_eq_true.mp h en he)
def kX1_shortestRelay : List fw_Ent := [
  (0, 1, .iconst 0, 0, 0), (1, 1, .istore_n 3, 0, 0), (2, 1, .iconst 0, 0, 0), (3, 2, .istore 4, 0, 0),
  (5, 1, .iload_n 1, 0, 0), (6, 2, .istore 5, 0, 0), (8, 1, .iconst 0, 0, 0), (9, 2, .istore 6, 0, 0),
  (11, 2, .iload 6, 0, 0), (13, 2, .bipush 16, 16, 0), (15, 3, .if_icmp .ge 63, 0, 78), (18, 2, .iload 5, 0, 0),
  (20, 1, .iload_n 2, 0, 0), (21, 3, .if_icmp .eq 57, 0, 78), (24, 2, .iload 5, 0, 0), (26, 1, .iload_n 2, 0, 0),
  (27, 3, .invokestatic 115, 0, 0), (30, 2, .istore 7, 0, 0), (32, 1, .aload_n 0, 0, 0), (33, 2, .iload 5, 0, 0),
  (35, 2, .iload 7, 0, 0), (37, 3, .invokevirtual 164, 0, 0), (40, 2, .istore 8, 0, 0), (42, 2, .iload 8, 0, 0),
  (44, 3, .ifCond .ne 5, 0, 49), (47, 1, .iconst (-1), (-1), 0), (48, 1, .ireturn, 0, 0), (49, 2, .iload 4, 0, 0),
  (51, 2, .iload 8, 0, 0), (53, 1, .iand, 0, 0), (54, 2, .istore 4, 0, 0), (56, 2, .iload 4, 0, 0),
  (58, 3, .ifCond .ne 10, 0, 68), (61, 3, .iinc 3 1, 1, 0), (64, 2, .iload 8, 0, 0), (66, 2, .istore 4, 0, 0),
  (68, 2, .iload 7, 0, 0), (70, 2, .istore 5, 0, 0), (72, 3, .iinc 6 1, 1, 0), (75, 3, .goto (-64), 0, 11),
  (78, 1, .iload_n 3, 0, 0), (79, 1, .ireturn, 0, 0)]
theorem kX1_shortestRelay_ok : fw_chk cX1_shortestRelay 9 kX1_shortestRelay = true := by decide +kernel
theorem kX1_shortestRelay_cst : ∀ en ∈ kX1_shortestRelay, fw_CstOK RX1 cst_X1 en := by
  have h : kX1_shortestRelay.all (fw_cstq cp_X1) = true := by decide +kernel
  exact fun en he => fw_cstX cp_X1_ok cst_X1_ok (List.all_eq_true.mp h en he)
def kX1_parcelsIn : List fw_Ent := [
  (0, 1, .iconst 0, 0, 0), (1, 1, .istore_n 2, 0, 0), (2, 1, .iconst 0, 0, 0), (3, 1, .istore_n 3, 0, 0),
  (4, 1, .iload_n 3, 0, 0), (5, 1, .aload_n 0, 0, 0), (6, 3, .getfield 35, 0, 0), (9, 3, .if_icmp .ge 33, 0, 42),
  (12, 1, .aload_n 0, 0, 0), (13, 1, .iload_n 3, 0, 0), (14, 3, .invokevirtual 55, 0, 0), (17, 2, .astore 4, 0, 0),
  (19, 2, .aload 4, 0, 0), (21, 3, .ifnull 15, 0, 36), (24, 2, .aload 4, 0, 0), (26, 3, .getfield 72, 0, 0),
  (29, 1, .iload_n 1, 0, 0), (30, 3, .if_icmp .ne 6, 0, 36), (33, 3, .iinc 2 1, 1, 0), (36, 3, .iinc 3 1, 1, 0),
  (39, 3, .goto (-35), 0, 4), (42, 1, .iload_n 2, 0, 0), (43, 1, .ireturn, 0, 0)]
theorem kX1_parcelsIn_ok : fw_chk cX1_parcelsIn 5 kX1_parcelsIn = true := by decide +kernel
theorem kX1_parcelsIn_cst : ∀ en ∈ kX1_parcelsIn, fw_CstOK RX1 cst_X1 en := by
  have h : kX1_parcelsIn.all (fw_cstq cp_X1) = true := by decide +kernel
  exact fun en he => fw_cstX cp_X1_ok cst_X1_ok (List.all_eq_true.mp h en he)
def kX1_parcelsInTime : List fw_Ent := [
  (0, 1, .iconst 0, 0, 0), (1, 1, .istore_n 1, 0, 0), (2, 1, .iconst 0, 0, 0), (3, 1, .istore_n 2, 0, 0),
  (4, 1, .iload_n 2, 0, 0), (5, 1, .aload_n 0, 0, 0), (6, 3, .getfield 35, 0, 0), (9, 3, .if_icmp .ge 41, 0, 50),
  (12, 1, .aload_n 0, 0, 0), (13, 1, .iload_n 2, 0, 0), (14, 3, .invokevirtual 55, 0, 0), (17, 1, .astore_n 3, 0, 0),
  (18, 1, .aload_n 3, 0, 0), (19, 3, .ifnull 25, 0, 44), (22, 1, .aload_n 3, 0, 0), (23, 3, .getfield 72, 0, 0),
  (26, 1, .iconst 2, 2, 0), (27, 3, .if_icmp .ne 17, 0, 44), (30, 1, .aload_n 3, 0, 0), (31, 3, .getfield 131, 0, 0),
  (34, 1, .aload_n 3, 0, 0), (35, 3, .getfield 134, 0, 0), (38, 3, .if_icmp .gt 6, 0, 44), (41, 3, .iinc 1 1, 1, 0),
  (44, 3, .iinc 2 1, 1, 0), (47, 3, .goto (-43), 0, 4), (50, 1, .iload_n 1, 0, 0), (51, 1, .ireturn, 0, 0)]
theorem kX1_parcelsInTime_ok : fw_chk cX1_parcelsInTime 4 kX1_parcelsInTime = true := by decide +kernel
theorem kX1_parcelsInTime_cst : ∀ en ∈ kX1_parcelsInTime, fw_CstOK RX1 cst_X1 en := by
  have h : kX1_parcelsInTime.all (fw_cstq cp_X1) = true := by decide +kernel
  exact fun en he => fw_cstX cp_X1_ok cst_X1_ok (List.all_eq_true.mp h en he)
def kX1_legsBy : List fw_Ent := [
  (0, 1, .iconst 0, 0, 0), (1, 1, .istore_n 2, 0, 0), (2, 1, .iconst 0, 0, 0), (3, 1, .istore_n 3, 0, 0),
  (4, 1, .iload_n 3, 0, 0), (5, 1, .aload_n 0, 0, 0), (6, 3, .getfield 35, 0, 0), (9, 3, .if_icmp .ge 30, 0, 39),
  (12, 1, .aload_n 0, 0, 0), (13, 1, .iload_n 3, 0, 0), (14, 3, .invokevirtual 55, 0, 0), (17, 2, .astore 4, 0, 0),
  (19, 2, .aload 4, 0, 0), (21, 3, .ifnull 12, 0, 33), (24, 1, .iload_n 2, 0, 0), (25, 2, .aload 4, 0, 0),
  (27, 1, .iload_n 1, 0, 0), (28, 3, .invokevirtual 167, 0, 0), (31, 1, .iadd, 0, 0), (32, 1, .istore_n 2, 0, 0),
  (33, 3, .iinc 3 1, 1, 0), (36, 3, .goto (-32), 0, 4), (39, 1, .iload_n 2, 0, 0), (40, 1, .ireturn, 0, 0)]
theorem kX1_legsBy_ok : fw_chk cX1_legsBy 5 kX1_legsBy = true := by decide +kernel
theorem kX1_legsBy_cst : ∀ en ∈ kX1_legsBy, fw_CstOK RX1 cst_X1 en := by
  have h : kX1_legsBy.all (fw_cstq cp_X1) = true := by decide +kernel
  exact fun en he => fw_cstX cp_X1_ok cst_X1_ok (List.all_eq_true.mp h en he)
def kX1_figure : List fw_Ent := [
  (0, 1, .iload_n 1, 0, 0), (1, 59, .tableswitch 94 0 10 #[59, 64, 69, 74, 94, 94, 94, 94, 79, 84, 89], 0, 0), (60, 1, .aload_n 0, 0, 0), (61, 3, .getfield 29, 0, 0),
  (64, 1, .ireturn, 0, 0), (65, 1, .aload_n 0, 0, 0), (66, 3, .getfield 32, 0, 0), (69, 1, .ireturn, 0, 0),
  (70, 1, .aload_n 0, 0, 0), (71, 3, .getfield 35, 0, 0), (74, 1, .ireturn, 0, 0), (75, 1, .aload_n 0, 0, 0),
  (76, 3, .getfield 23, 0, 0), (79, 1, .ireturn, 0, 0), (80, 1, .aload_n 0, 0, 0), (81, 3, .getfield 38, 0, 0),
  (84, 1, .ireturn, 0, 0), (85, 1, .aload_n 0, 0, 0), (86, 3, .getfield 41, 0, 0), (89, 1, .ireturn, 0, 0),
  (90, 1, .aload_n 0, 0, 0), (91, 3, .getfield 44, 0, 0), (94, 1, .ireturn, 0, 0), (95, 1, .aload_n 0, 0, 0),
  (96, 1, .iload_n 1, 0, 0), (97, 1, .iconst 4, 4, 0), (98, 1, .isub, 0, 0), (99, 3, .invokevirtual 88, 0, 0),
  (102, 1, .ireturn, 0, 0)]
theorem kX1_figure_ok : fw_chk cX1_figure 2 kX1_figure = true := by decide +kernel
theorem kX1_figure_cst : ∀ en ∈ kX1_figure, fw_CstOK RX1 cst_X1 en := by
  have h : kX1_figure.all (fw_cstq cp_X1) = true := by decide +kernel
  exact fun en he => fw_cstX cp_X1_ok cst_X1_ok (List.all_eq_true.mp h en he)
def kX1_courierFigure : List fw_Ent := [
  (0, 1, .iload_n 3, 0, 0), (1, 35, .tableswitch 60 0 4 #[35, 40, 45, 50, 55], 0, 0), (36, 1, .aload_n 1, 0, 0), (37, 3, .getfield 78, 0, 0),
  (40, 1, .ireturn, 0, 0), (41, 1, .aload_n 1, 0, 0), (42, 3, .getfield 109, 0, 0), (45, 1, .ireturn, 0, 0),
  (46, 1, .aload_n 1, 0, 0), (47, 3, .getfield 144, 0, 0), (50, 1, .ireturn, 0, 0), (51, 1, .aload_n 1, 0, 0),
  (52, 3, .getfield 92, 0, 0), (55, 1, .ireturn, 0, 0), (56, 1, .aload_n 1, 0, 0), (57, 3, .getfield 69, 0, 0),
  (60, 1, .ireturn, 0, 0), (61, 1, .aload_n 0, 0, 0), (62, 1, .iload_n 2, 0, 0), (63, 3, .invokevirtual 170, 0, 0),
  (66, 1, .ireturn, 0, 0)]
theorem kX1_courierFigure_ok : fw_chk cX1_courierFigure 4 kX1_courierFigure = true := by decide +kernel
theorem kX1_courierFigure_cst : ∀ en ∈ kX1_courierFigure, fw_CstOK RX1 cst_X1 en := by
  have h : kX1_courierFigure.all (fw_cstq cp_X1) = true := by decide +kernel
  exact fun en he => fw_cstX cp_X1_ok cst_X1_ok (List.all_eq_true.mp h en he)
def kX1_hashCouriers : List fw_Ent := [
  (0, 1, .lload_n 1, 0, 0), (1, 1, .lstore_n 3, 0, 0), (2, 1, .iconst 0, 0, 0), (3, 2, .istore 5, 0, 0),
  (5, 2, .iload 5, 0, 0), (7, 1, .aload_n 0, 0, 0), (8, 3, .getfield 32, 0, 0), (11, 3, .if_icmp .ge 55, 0, 66),
  (14, 1, .aload_n 0, 0, 0), (15, 2, .iload 5, 0, 0), (17, 3, .invokevirtual 47, 0, 0), (20, 2, .astore 6, 0, 0),
  (22, 1, .iconst 0, 0, 0), (23, 2, .istore 7, 0, 0), (25, 2, .aload 6, 0, 0), (27, 3, .ifnull 33, 0, 60),
  (30, 2, .iload 7, 0, 0), (32, 1, .iconst 5, 5, 0), (33, 3, .if_icmp .gt 27, 0, 60), (36, 3, .ldc2_w 173, 0, 0),
  (39, 1, .lload_n 3, 0, 0), (40, 1, .lmul, 0, 0), (41, 1, .aload_n 0, 0, 0), (42, 2, .aload 6, 0, 0),
  (44, 2, .iload 5, 0, 0), (46, 2, .iload 7, 0, 0), (48, 3, .invokevirtual 175, 0, 0), (51, 1, .i2l, 0, 0),
  (52, 1, .ladd, 0, 0), (53, 1, .lstore_n 3, 0, 0), (54, 3, .iinc 7 1, 1, 0), (57, 3, .goto (-32), 0, 25),
  (60, 3, .iinc 5 1, 1, 0), (63, 3, .goto (-58), 0, 5), (66, 1, .lload_n 3, 0, 0), (67, 1, .lreturn, 0, 0)]
theorem kX1_hashCouriers_ok : fw_chk cX1_hashCouriers 8 kX1_hashCouriers = true := by decide +kernel
theorem kX1_hashCouriers_cst : ∀ en ∈ kX1_hashCouriers, fw_CstOK RX1 cst_X1 en := by
  have h : kX1_hashCouriers.all (fw_cstq cp_X1) = true := by decide +kernel
  exact fun en he => fw_cstX cp_X1_ok cst_X1_ok (List.all_eq_true.mp h en he)
def kX1_hashParcels : List fw_Ent := [
  (0, 1, .lload_n 1, 0, 0), (1, 1, .lstore_n 3, 0, 0), (2, 1, .iconst 0, 0, 0), (3, 2, .istore 5, 0, 0),
  (5, 2, .iload 5, 0, 0), (7, 1, .aload_n 0, 0, 0), (8, 3, .getfield 35, 0, 0), (11, 3, .if_icmp .ge 106, 0, 117),
  (14, 1, .aload_n 0, 0, 0), (15, 2, .iload 5, 0, 0), (17, 3, .invokevirtual 55, 0, 0), (20, 2, .astore 6, 0, 0),
  (22, 1, .iconst 0, 0, 0), (23, 2, .istore 7, 0, 0), (25, 2, .aload 6, 0, 0), (27, 3, .ifnull 31, 0, 58),
  (30, 2, .iload 7, 0, 0), (32, 2, .bipush 8, 8, 0), (34, 3, .if_icmp .gt 24, 0, 58), (37, 3, .ldc2_w 173, 0, 0),
  (40, 1, .lload_n 3, 0, 0), (41, 1, .lmul, 0, 0), (42, 2, .aload 6, 0, 0), (44, 2, .iload 7, 0, 0),
  (46, 3, .invokevirtual 179, 0, 0), (49, 1, .i2l, 0, 0), (50, 1, .ladd, 0, 0), (51, 1, .lstore_n 3, 0, 0),
  (52, 3, .iinc 7 1, 1, 0), (55, 3, .goto (-30), 0, 25), (58, 1, .iconst 0, 0, 0), (59, 2, .istore 7, 0, 0),
  (61, 2, .aload 6, 0, 0), (63, 3, .ifnull 48, 0, 111), (66, 2, .iload 7, 0, 0), (68, 1, .aload_n 0, 0, 0),
  (69, 3, .getfield 32, 0, 0), (72, 3, .if_icmp .ge 39, 0, 111), (75, 3, .ldc2_w 173, 0, 0), (78, 1, .lload_n 3, 0, 0),
  (79, 1, .lmul, 0, 0), (80, 2, .aload 6, 0, 0), (82, 2, .iload 7, 0, 0), (84, 3, .invokevirtual 167, 0, 0),
  (87, 1, .i2l, 0, 0), (88, 1, .ladd, 0, 0), (89, 1, .lstore_n 3, 0, 0), (90, 3, .ldc2_w 173, 0, 0),
  (93, 1, .lload_n 3, 0, 0), (94, 1, .lmul, 0, 0), (95, 2, .aload 6, 0, 0), (97, 2, .iload 7, 0, 0),
  (99, 3, .invokevirtual 147, 0, 0), (102, 1, .i2l, 0, 0), (103, 1, .ladd, 0, 0), (104, 1, .lstore_n 3, 0, 0),
  (105, 3, .iinc 7 1, 1, 0), (108, 3, .goto (-47), 0, 61), (111, 3, .iinc 5 1, 1, 0), (114, 3, .goto (-109), 0, 5),
  (117, 1, .lload_n 3, 0, 0), (118, 1, .lreturn, 0, 0)]
theorem kX1_hashParcels_ok : fw_chk cX1_hashParcels 8 kX1_hashParcels = true := by decide +kernel
theorem kX1_hashParcels_cst : ∀ en ∈ kX1_hashParcels, fw_CstOK RX1 cst_X1 en := by
  have h : kX1_hashParcels.all (fw_cstq cp_X1) = true := by decide +kernel
  exact fun en he => fw_cstX cp_X1_ok cst_X1_ok (List.all_eq_true.mp h en he)
def kX2_stateAt : List fw_Ent := [
  (0, 1, .aload_n 0, 0, 0), (1, 3, .getfield 18, 0, 0), (4, 1, .iload_n 1, 0, 0), (5, 1, .iadd, 0, 0),
  (6, 1, .iconst 4, 4, 0), (7, 1, .irem, 0, 0), (8, 1, .istore_n 2, 0, 0), (9, 1, .iload_n 2, 0, 0),
  (10, 3, .ifCond .lt 12, 0, 22), (13, 1, .iload_n 2, 0, 0), (14, 1, .aload_n 0, 0, 0), (15, 3, .getfield 11, 0, 0),
  (18, 1, .arraylength, 0, 0), (19, 3, .if_icmp .lt 5, 0, 24), (22, 1, .aconst_null, 0, 0), (23, 1, .areturn, 0, 0),
  (24, 1, .aload_n 0, 0, 0), (25, 3, .getfield 11, 0, 0), (28, 1, .iload_n 2, 0, 0), (29, 1, .aaload, 0, 0),
  (30, 1, .areturn, 0, 0)]
theorem kX2_stateAt_ok : fw_chk cX2_stateAt 3 kX2_stateAt = true := by decide +kernel
theorem kX2_stateAt_cst : ∀ en ∈ kX2_stateAt, fw_CstOK RX2 cst_X2 en := by
  have h : kX2_stateAt.all (fw_cstq cp_X2) = true := by decide +kernel
  exact fun en he => fw_cstX cp_X2_ok cst_X2_ok (List.all_eq_true.mp h en he)
def kX2_save : List fw_Ent := [
  (0, 1, .aload_n 0, 0, 0), (1, 3, .getfield 22, 0, 0), (4, 1, .iconst 4, 4, 0), (5, 3, .if_icmp .lt 25, 0, 30),
  (8, 1, .aload_n 0, 0, 0), (9, 1, .aload_n 0, 0, 0), (10, 3, .getfield 18, 0, 0), (13, 1, .iconst 1, 1, 0),
  (14, 1, .iadd, 0, 0), (15, 1, .iconst 4, 4, 0), (16, 1, .irem, 0, 0), (17, 3, .putfield 18, 0, 0),
  (20, 1, .aload_n 0, 0, 0), (21, 1, .dup, 0, 0), (22, 3, .getfield 22, 0, 0), (25, 1, .iconst 1, 1, 0),
  (26, 1, .isub, 0, 0), (27, 3, .putfield 22, 0, 0), (30, 1, .aload_n 0, 0, 0), (31, 1, .aload_n 0, 0, 0),
  (32, 3, .getfield 22, 0, 0), (35, 3, .invokevirtual 25, 0, 0), (38, 1, .astore_n 2, 0, 0), (39, 1, .aload_n 2, 0, 0),
  (40, 3, .ifnull 8, 0, 48), (43, 1, .aload_n 2, 0, 0), (44, 1, .aload_n 1, 0, 0), (45, 3, .invokevirtual 29, 0, 0),
  (48, 1, .aload_n 0, 0, 0), (49, 1, .dup, 0, 0), (50, 3, .getfield 22, 0, 0), (53, 1, .iconst 1, 1, 0),
  (54, 1, .iadd, 0, 0), (55, 3, .putfield 22, 0, 0), (58, 1, .return_, 0, 0)]
theorem kX2_save_ok : fw_chk cX2_save 3 kX2_save = true := by decide +kernel
theorem kX2_save_cst : ∀ en ∈ kX2_save, fw_CstOK RX2 cst_X2 en := by
  have h : kX2_save.all (fw_cstq cp_X2) = true := by decide +kernel
  exact fun en he => fw_cstX cp_X2_ok cst_X2_ok (List.all_eq_true.mp h en he)
def kX2_restore : List fw_Ent := [
  (0, 1, .aload_n 0, 0, 0), (1, 1, .dup, 0, 0), (2, 3, .getfield 22, 0, 0), (5, 1, .iconst 1, 1, 0),
  (6, 1, .isub, 0, 0), (7, 3, .putfield 22, 0, 0), (10, 1, .aload_n 0, 0, 0), (11, 1, .aload_n 0, 0, 0),
  (12, 3, .getfield 22, 0, 0), (15, 3, .invokevirtual 25, 0, 0), (18, 1, .astore_n 2, 0, 0), (19, 1, .aload_n 2, 0, 0),
  (20, 3, .ifnull 8, 0, 28), (23, 1, .aload_n 1, 0, 0), (24, 1, .aload_n 2, 0, 0), (25, 3, .invokevirtual 29, 0, 0),
  (28, 1, .return_, 0, 0)]
theorem kX2_restore_ok : fw_chk cX2_restore 3 kX2_restore = true := by decide +kernel
theorem kX2_restore_cst : ∀ en ∈ kX2_restore, fw_CstOK RX2 cst_X2 en := by
  have h : kX2_restore.all (fw_cstq cp_X2) = true := by decide +kernel
  exact fun en he => fw_cstX cp_X2_ok cst_X2_ok (List.all_eq_true.mp h en he)
def kX3_begin : List fw_Ent := [
  (0, 1, .aload_n 0, 0, 0), (1, 1, .iload_n 1, 0, 0), (2, 3, .putfield 18, 0, 0), (5, 1, .aload_n 0, 0, 0),
  (6, 1, .iload_n 2, 0, 0), (7, 3, .putfield 22, 0, 0), (10, 1, .aload_n 0, 0, 0), (11, 1, .iload_n 3, 0, 0),
  (12, 3, .putfield 25, 0, 0), (15, 1, .aload_n 0, 0, 0), (16, 2, .iload 4, 0, 0), (18, 3, .putfield 28, 0, 0),
  (21, 1, .aload_n 0, 0, 0), (22, 1, .iconst 0, 0, 0), (23, 3, .putfield 31, 0, 0), (26, 1, .aload_n 0, 0, 0),
  (27, 1, .iload_n 1, 0, 0), (28, 3, .putfield 34, 0, 0), (31, 1, .aload_n 0, 0, 0), (32, 1, .iconst (-1), (-1), 0),
  (33, 3, .putfield 37, 0, 0), (36, 1, .aload_n 0, 0, 0), (37, 1, .iconst 0, 0, 0), (38, 3, .putfield 40, 0, 0),
  (41, 1, .iconst 0, 0, 0), (42, 2, .istore 5, 0, 0), (44, 2, .iload 5, 0, 0), (46, 1, .aload_n 0, 0, 0),
  (47, 3, .getfield 9, 0, 0), (50, 1, .arraylength, 0, 0), (51, 3, .if_icmp .ge 17, 0, 68), (54, 1, .aload_n 0, 0, 0),
  (55, 3, .getfield 9, 0, 0), (58, 2, .iload 5, 0, 0), (60, 1, .iconst 0, 0, 0), (61, 1, .iastore, 0, 0),
  (62, 3, .iinc 5 1, 1, 0), (65, 3, .goto (-21), 0, 44), (68, 1, .iconst 0, 0, 0), (69, 2, .istore 5, 0, 0),
  (71, 2, .iload 5, 0, 0), (73, 1, .aload_n 0, 0, 0), (74, 3, .getfield 15, 0, 0), (77, 1, .arraylength, 0, 0),
  (78, 3, .if_icmp .ge 17, 0, 95), (81, 1, .aload_n 0, 0, 0), (82, 3, .getfield 15, 0, 0), (85, 2, .iload 5, 0, 0),
  (87, 1, .iconst 0, 0, 0), (88, 1, .iastore, 0, 0), (89, 3, .iinc 5 1, 1, 0), (92, 3, .goto (-21), 0, 71),
  (95, 1, .return_, 0, 0)]
theorem kX3_begin_ok : fw_chk cX3_begin 6 kX3_begin = true := by decide +kernel
theorem kX3_begin_cst : ∀ en ∈ kX3_begin, fw_CstOK RX3 cst_X3 en := by
  have h : kX3_begin.all (fw_cstq cp_X3) = true := by decide +kernel
  exact fun en he => fw_cstX cp_X3_ok cst_X3_ok (List.all_eq_true.mp h en he)
def kX3_become : List fw_Ent := [
  (0, 1, .aload_n 0, 0, 0), (1, 1, .aload_n 1, 0, 0), (2, 3, .getfield 18, 0, 0), (5, 3, .putfield 18, 0, 0),
  (8, 1, .aload_n 0, 0, 0), (9, 1, .aload_n 1, 0, 0), (10, 3, .getfield 22, 0, 0), (13, 3, .putfield 22, 0, 0),
  (16, 1, .aload_n 0, 0, 0), (17, 1, .aload_n 1, 0, 0), (18, 3, .getfield 25, 0, 0), (21, 3, .putfield 25, 0, 0),
  (24, 1, .aload_n 0, 0, 0), (25, 1, .aload_n 1, 0, 0), (26, 3, .getfield 28, 0, 0), (29, 3, .putfield 28, 0, 0),
  (32, 1, .aload_n 0, 0, 0), (33, 1, .aload_n 1, 0, 0), (34, 3, .getfield 31, 0, 0), (37, 3, .putfield 31, 0, 0),
  (40, 1, .aload_n 0, 0, 0), (41, 1, .aload_n 1, 0, 0), (42, 3, .getfield 34, 0, 0), (45, 3, .putfield 34, 0, 0),
  (48, 1, .aload_n 0, 0, 0), (49, 1, .aload_n 1, 0, 0), (50, 3, .getfield 37, 0, 0), (53, 3, .putfield 37, 0, 0),
  (56, 1, .aload_n 0, 0, 0), (57, 1, .aload_n 1, 0, 0), (58, 3, .getfield 40, 0, 0), (61, 3, .putfield 40, 0, 0),
  (64, 1, .aload_n 1, 0, 0), (65, 3, .getfield 9, 0, 0), (68, 1, .aload_n 0, 0, 0), (69, 3, .getfield 9, 0, 0),
  (72, 3, .invokestatic 43, 0, 0), (75, 1, .aload_n 1, 0, 0), (76, 3, .getfield 15, 0, 0), (79, 1, .aload_n 0, 0, 0),
  (80, 3, .getfield 15, 0, 0), (83, 3, .invokestatic 43, 0, 0), (86, 1, .return_, 0, 0)]
theorem kX3_become_ok : fw_chk cX3_become 2 kX3_become = true := by decide +kernel
theorem kX3_become_cst : ∀ en ∈ kX3_become, fw_CstOK RX3 cst_X3 en := by
  have h : kX3_become.all (fw_cstq cp_X3) = true := by decide +kernel
  exact fun en he => fw_cstX cp_X3_ok cst_X3_ok (List.all_eq_true.mp h en he)
def kX3_isOpen : List fw_Ent := [
  (0, 1, .aload_n 0, 0, 0), (1, 3, .getfield 31, 0, 0), (4, 3, .ifCond .eq 11, 0, 15), (7, 1, .aload_n 0, 0, 0),
  (8, 3, .getfield 31, 0, 0), (11, 1, .iconst 1, 1, 0), (12, 3, .if_icmp .ne 7, 0, 19), (15, 1, .iconst 1, 1, 0),
  (16, 3, .goto 4, 0, 20), (19, 1, .iconst 0, 0, 0), (20, 1, .ireturn, 0, 0)]
theorem kX3_isOpen_ok : fw_chk cX3_isOpen 1 kX3_isOpen = true := by decide +kernel
theorem kX3_isOpen_cst : ∀ en ∈ kX3_isOpen, fw_CstOK RX3 cst_X3 en := by
  have h : kX3_isOpen.all (fw_cstq cp_X3) = true := by decide +kernel
  exact fun en he => fw_cstX cp_X3_ok cst_X3_ok (List.all_eq_true.mp h en he)
def kX3_suits : List fw_Ent := [
  (0, 1, .iload_n 1, 0, 0), (1, 1, .aload_n 0, 0, 0), (2, 3, .getfield 34, 0, 0), (5, 3, .invokestatic 47, 0, 0),
  (8, 3, .ifCond .eq 25, 0, 33), (11, 1, .iload_n 1, 0, 0), (12, 1, .aload_n 0, 0, 0), (13, 3, .getfield 34, 0, 0),
  (16, 1, .aload_n 0, 0, 0), (17, 3, .getfield 22, 0, 0), (20, 3, .invokestatic 51, 0, 0), (23, 3, .invokestatic 47, 0, 0),
  (26, 3, .ifCond .eq 7, 0, 33), (29, 1, .iconst 1, 1, 0), (30, 3, .goto 4, 0, 34), (33, 1, .iconst 0, 0, 0),
  (34, 1, .ireturn, 0, 0)]
theorem kX3_suits_ok : fw_chk cX3_suits 2 kX3_suits = true := by decide +kernel
theorem kX3_suits_cst : ∀ en ∈ kX3_suits, fw_CstOK RX3 cst_X3 en := by
  have h : kX3_suits.all (fw_cstq cp_X3) = true := by decide +kernel
  exact fun en he => fw_cstX cp_X3_ok cst_X3_ok (List.all_eq_true.mp h en he)
def kX3_legsOf : List fw_Ent := [
  (0, 1, .aload_n 0, 0, 0), (1, 3, .getfield 9, 0, 0), (4, 1, .iload_n 1, 0, 0), (5, 3, .invokestatic 55, 0, 0),
  (8, 1, .ireturn, 0, 0)]
theorem kX3_legsOf_ok : fw_chk cX3_legsOf 2 kX3_legsOf = true := by decide +kernel
theorem kX3_legsOf_cst : ∀ en ∈ kX3_legsOf, fw_CstOK RX3 cst_X3 en := by
  have h : kX3_legsOf.all (fw_cstq cp_X3) = true := by decide +kernel
  exact fun en he => fw_cstX cp_X3_ok cst_X3_ok (List.all_eq_true.mp h en he)
def kX3_shareOf : List fw_Ent := [
  (0, 1, .aload_n 0, 0, 0), (1, 3, .getfield 15, 0, 0), (4, 1, .iload_n 1, 0, 0), (5, 3, .invokestatic 55, 0, 0),
  (8, 1, .ireturn, 0, 0)]
theorem kX3_shareOf_ok : fw_chk cX3_shareOf 2 kX3_shareOf = true := by decide +kernel
theorem kX3_shareOf_cst : ∀ en ∈ kX3_shareOf, fw_CstOK RX3 cst_X3 en := by
  have h : kX3_shareOf.all (fw_cstq cp_X3) = true := by decide +kernel
  exact fun en he => fw_cstX cp_X3_ok cst_X3_ok (List.all_eq_true.mp h en he)
def kX3_addLeg : List fw_Ent := [
  (0, 1, .iload_n 1, 0, 0), (1, 3, .ifCond .lt 22, 0, 23), (4, 1, .iload_n 1, 0, 0), (5, 1, .aload_n 0, 0, 0),
  (6, 3, .getfield 9, 0, 0), (9, 1, .arraylength, 0, 0), (10, 3, .if_icmp .ge 13, 0, 23), (13, 1, .aload_n 0, 0, 0),
  (14, 3, .getfield 9, 0, 0), (17, 1, .iload_n 1, 0, 0), (18, 1, .dup2, 0, 0), (19, 1, .iaload, 0, 0),
  (20, 1, .iconst 1, 1, 0), (21, 1, .iadd, 0, 0), (22, 1, .iastore, 0, 0), (23, 1, .return_, 0, 0)]
theorem kX3_addLeg_ok : fw_chk cX3_addLeg 2 kX3_addLeg = true := by decide +kernel
theorem kX3_addLeg_cst : ∀ en ∈ kX3_addLeg, fw_CstOK RX3 cst_X3 en := by
  have h : kX3_addLeg.all (fw_cstq cp_X3) = true := by decide +kernel
  exact fun en he => fw_cstX cp_X3_ok cst_X3_ok (List.all_eq_true.mp h en he)
def kX3_sharePaid : List fw_Ent := [
  (0, 1, .aload_n 0, 0, 0), (1, 3, .getfield 9, 0, 0), (4, 3, .invokestatic 59, 0, 0), (7, 1, .istore_n 1, 0, 0),
  (8, 1, .iload_n 1, 0, 0), (9, 3, .ifCond .gt 4, 0, 13), (12, 1, .return_, 0, 0), (13, 1, .aload_n 0, 0, 0),
  (14, 3, .getfield 40, 0, 0), (17, 1, .istore_n 2, 0, 0), (18, 1, .iconst 0, 0, 0), (19, 1, .istore_n 3, 0, 0),
  (20, 1, .iload_n 3, 0, 0), (21, 1, .aload_n 0, 0, 0), (22, 3, .getfield 9, 0, 0), (25, 1, .arraylength, 0, 0),
  (26, 3, .if_icmp .ge 46, 0, 72), (29, 1, .iload_n 3, 0, 0), (30, 1, .aload_n 0, 0, 0), (31, 3, .getfield 15, 0, 0),
  (34, 1, .arraylength, 0, 0), (35, 3, .if_icmp .ge 37, 0, 72), (38, 1, .aload_n 0, 0, 0), (39, 3, .getfield 15, 0, 0),
  (42, 1, .iload_n 3, 0, 0), (43, 1, .aload_n 0, 0, 0), (44, 3, .getfield 40, 0, 0), (47, 1, .aload_n 0, 0, 0),
  (48, 3, .getfield 9, 0, 0), (51, 1, .iload_n 3, 0, 0), (52, 1, .iaload, 0, 0), (53, 1, .imul, 0, 0),
  (54, 1, .iload_n 1, 0, 0), (55, 1, .idiv, 0, 0), (56, 1, .iastore, 0, 0), (57, 1, .iload_n 2, 0, 0),
  (58, 1, .aload_n 0, 0, 0), (59, 3, .getfield 15, 0, 0), (62, 1, .iload_n 3, 0, 0), (63, 1, .iaload, 0, 0),
  (64, 1, .isub, 0, 0), (65, 1, .istore_n 2, 0, 0), (66, 3, .iinc 3 1, 1, 0), (69, 3, .goto (-49), 0, 20),
  (72, 1, .iconst 0, 0, 0), (73, 1, .istore_n 3, 0, 0), (74, 1, .iload_n 3, 0, 0), (75, 1, .aload_n 0, 0, 0),
  (76, 3, .getfield 9, 0, 0), (79, 1, .arraylength, 0, 0), (80, 3, .if_icmp .ge 51, 0, 131), (83, 1, .iload_n 3, 0, 0),
  (84, 1, .aload_n 0, 0, 0), (85, 3, .getfield 15, 0, 0), (88, 1, .arraylength, 0, 0), (89, 3, .if_icmp .ge 42, 0, 131),
  (92, 1, .aload_n 0, 0, 0), (93, 1, .iload_n 3, 0, 0), (94, 1, .aload_n 0, 0, 0), (95, 3, .getfield 40, 0, 0),
  (98, 1, .aload_n 0, 0, 0), (99, 3, .getfield 9, 0, 0), (102, 1, .iload_n 3, 0, 0), (103, 1, .iaload, 0, 0),
  (104, 1, .imul, 0, 0), (105, 1, .iload_n 1, 0, 0), (106, 1, .irem, 0, 0), (107, 1, .iload_n 1, 0, 0),
  (108, 3, .invokevirtual 63, 0, 0), (111, 1, .iload_n 2, 0, 0), (112, 3, .if_icmp .ge 13, 0, 125), (115, 1, .aload_n 0, 0, 0),
  (116, 3, .getfield 15, 0, 0), (119, 1, .iload_n 3, 0, 0), (120, 1, .dup2, 0, 0), (121, 1, .iaload, 0, 0),
  (122, 1, .iconst 1, 1, 0), (123, 1, .iadd, 0, 0), (124, 1, .iastore, 0, 0), (125, 3, .iinc 3 1, 1, 0),
  (128, 3, .goto (-54), 0, 74), (131, 1, .return_, 0, 0)]
theorem kX3_sharePaid_ok : fw_chk cX3_sharePaid 4 kX3_sharePaid = true := by decide +kernel
theorem kX3_sharePaid_cst : ∀ en ∈ kX3_sharePaid, fw_CstOK RX3 cst_X3 en := by
  have h : kX3_sharePaid.all (fw_cstq cp_X3) = true := by decide +kernel
  exact fun en he => fw_cstX cp_X3_ok cst_X3_ok (List.all_eq_true.mp h en he)
def kX3_rankOf : List fw_Ent := [
  (0, 1, .iconst 0, 0, 0), (1, 2, .istore 4, 0, 0), (3, 1, .iconst 0, 0, 0), (4, 2, .istore 5, 0, 0),
  (6, 2, .iload 5, 0, 0), (8, 1, .aload_n 0, 0, 0), (9, 3, .getfield 9, 0, 0), (12, 1, .arraylength, 0, 0),
  (13, 3, .if_icmp .ge 50, 0, 63), (16, 1, .iload_n 3, 0, 0), (17, 3, .ifCond .le 46, 0, 63), (20, 1, .aload_n 0, 0, 0),
  (21, 3, .getfield 40, 0, 0), (24, 1, .aload_n 0, 0, 0), (25, 3, .getfield 9, 0, 0), (28, 2, .iload 5, 0, 0),
  (30, 1, .iaload, 0, 0), (31, 1, .imul, 0, 0), (32, 1, .iload_n 3, 0, 0), (33, 1, .irem, 0, 0),
  (34, 2, .istore 6, 0, 0), (36, 2, .iload 6, 0, 0), (38, 1, .iload_n 2, 0, 0), (39, 3, .if_icmp .gt 15, 0, 54),
  (42, 2, .iload 6, 0, 0), (44, 1, .iload_n 2, 0, 0), (45, 3, .if_icmp .ne 12, 0, 57), (48, 2, .iload 5, 0, 0),
  (50, 1, .iload_n 1, 0, 0), (51, 3, .if_icmp .ge 6, 0, 57), (54, 3, .iinc 4 1, 1, 0), (57, 3, .iinc 5 1, 1, 0),
  (60, 3, .goto (-54), 0, 6), (63, 2, .iload 4, 0, 0), (65, 1, .ireturn, 0, 0)]
theorem kX3_rankOf_ok : fw_chk cX3_rankOf 7 kX3_rankOf = true := by decide +kernel
theorem kX3_rankOf_cst : ∀ en ∈ kX3_rankOf, fw_CstOK RX3 cst_X3 en := by
  have h : kX3_rankOf.all (fw_cstq cp_X3) = true := by decide +kernel
  exact fun en he => fw_cstX cp_X3_ok cst_X3_ok (List.all_eq_true.mp h en he)
def kX3_figure : List fw_Ent := [
  (0, 1, .iload_n 1, 0, 0), (1, 47, .tableswitch 87 0 7 #[47, 52, 57, 62, 67, 72, 77, 82], 0, 0), (48, 1, .aload_n 0, 0, 0), (49, 3, .getfield 18, 0, 0),
  (52, 1, .ireturn, 0, 0), (53, 1, .aload_n 0, 0, 0), (54, 3, .getfield 22, 0, 0), (57, 1, .ireturn, 0, 0),
  (58, 1, .aload_n 0, 0, 0), (59, 3, .getfield 25, 0, 0), (62, 1, .ireturn, 0, 0), (63, 1, .aload_n 0, 0, 0),
  (64, 3, .getfield 28, 0, 0), (67, 1, .ireturn, 0, 0), (68, 1, .aload_n 0, 0, 0), (69, 3, .getfield 31, 0, 0),
  (72, 1, .ireturn, 0, 0), (73, 1, .aload_n 0, 0, 0), (74, 3, .getfield 34, 0, 0), (77, 1, .ireturn, 0, 0),
  (78, 1, .aload_n 0, 0, 0), (79, 3, .getfield 37, 0, 0), (82, 1, .ireturn, 0, 0), (83, 1, .aload_n 0, 0, 0),
  (84, 3, .getfield 40, 0, 0), (87, 1, .ireturn, 0, 0), (88, 1, .aload_n 0, 0, 0), (89, 3, .getfield 9, 0, 0),
  (92, 3, .invokestatic 59, 0, 0), (95, 1, .ireturn, 0, 0)]
theorem kX3_figure_ok : fw_chk cX3_figure 2 kX3_figure = true := by decide +kernel
theorem kX3_figure_cst : ∀ en ∈ kX3_figure, fw_CstOK RX3 cst_X3 en := by
  have h : kX3_figure.all (fw_cstq cp_X3) = true := by decide +kernel
  exact fun en he => fw_cstX cp_X3_ok cst_X3_ok (List.all_eq_true.mp h en he)
def kX4_add : List fw_Ent := [
  (0, 1, .aload_n 0, 0, 0), (1, 3, .getfield 18, 0, 0), (4, 3, .ifCond .lt 35, 0, 39), (7, 1, .aload_n 0, 0, 0),
  (8, 3, .getfield 18, 0, 0), (11, 1, .aload_n 0, 0, 0), (12, 3, .getfield 9, 0, 0), (15, 1, .arraylength, 0, 0),
  (16, 3, .if_icmp .ge 23, 0, 39), (19, 1, .aload_n 0, 0, 0), (20, 3, .getfield 9, 0, 0), (23, 1, .aload_n 0, 0, 0),
  (24, 3, .getfield 18, 0, 0), (27, 1, .iload_n 1, 0, 0), (28, 1, .iastore, 0, 0), (29, 1, .aload_n 0, 0, 0),
  (30, 1, .dup, 0, 0), (31, 3, .getfield 18, 0, 0), (34, 1, .iconst 1, 1, 0), (35, 1, .iadd, 0, 0),
  (36, 3, .putfield 18, 0, 0), (39, 1, .return_, 0, 0)]
theorem kX4_add_ok : fw_chk cX4_add 2 kX4_add = true := by decide +kernel
theorem kX4_add_cst : ∀ en ∈ kX4_add, fw_CstOK RX4 cst_X4 en := by
  have h : kX4_add.all (fw_cstq cp_X4) = true := by decide +kernel
  exact fun en he => fw_cstX cp_X4_ok cst_X4_ok (List.all_eq_true.mp h en he)
def kX4_numberOf : List fw_Ent := [
  (0, 1, .aload_n 0, 0, 0), (1, 3, .getfield 15, 0, 0), (4, 1, .iload_n 1, 0, 0), (5, 1, .iconst 4, 4, 0),
  (6, 1, .imul, 0, 0), (7, 1, .iload_n 2, 0, 0), (8, 1, .iadd, 0, 0), (9, 3, .invokestatic 22, 0, 0),
  (12, 1, .ireturn, 0, 0)]
theorem kX4_numberOf_ok : fw_chk cX4_numberOf 3 kX4_numberOf = true := by decide +kernel
theorem kX4_numberOf_cst : ∀ en ∈ kX4_numberOf, fw_CstOK RX4 cst_X4 en := by
  have h : kX4_numberOf.all (fw_cstq cp_X4) = true := by decide +kernel
  exact fun en he => fw_cstX cp_X4_ok cst_X4_ok (List.all_eq_true.mp h en he)
def kX4_read : List fw_Ent := [
  (0, 1, .aload_n 0, 0, 0), (1, 1, .iconst 0, 0, 0), (2, 3, .putfield 26, 0, 0), (5, 1, .aload_n 0, 0, 0),
  (6, 1, .iconst 0, 0, 0), (7, 3, .putfield 29, 0, 0), (10, 1, .aload_n 0, 0, 0), (11, 3, .getfield 26, 0, 0),
  (14, 1, .aload_n 0, 0, 0), (15, 3, .getfield 18, 0, 0), (18, 3, .if_icmp .ge 41, 0, 59), (21, 1, .aload_n 0, 0, 0),
  (22, 3, .getfield 29, 0, 0), (25, 1, .iload_n 1, 0, 0), (26, 3, .if_icmp .lt 8, 0, 34), (29, 1, .aload_n 0, 0, 0),
  (30, 3, .getfield 26, 0, 0), (33, 1, .ireturn, 0, 0), (34, 1, .aload_n 0, 0, 0), (35, 3, .invokevirtual 32, 0, 0),
  (38, 1, .istore_n 2, 0, 0), (39, 1, .iload_n 2, 0, 0), (40, 1, .iconst (-1), (-1), 0), (41, 3, .if_icmp .eq 5, 0, 46),
  (44, 1, .iload_n 2, 0, 0), (45, 1, .ireturn, 0, 0), (46, 1, .aload_n 0, 0, 0), (47, 1, .dup, 0, 0),
  (48, 3, .getfield 29, 0, 0), (51, 1, .iconst 1, 1, 0), (52, 1, .iadd, 0, 0), (53, 3, .putfield 29, 0, 0),
  (56, 3, .goto (-46), 0, 10), (59, 1, .iconst (-1), (-1), 0), (60, 1, .ireturn, 0, 0)]
theorem kX4_read_ok : fw_chk cX4_read 3 kX4_read = true := by decide +kernel
theorem kX4_read_cst : ∀ en ∈ kX4_read, fw_CstOK RX4 cst_X4 en := by
  have h : kX4_read.all (fw_cstq cp_X4) = true := by decide +kernel
  exact fun en he => fw_cstX cp_X4_ok cst_X4_ok (List.all_eq_true.mp h en he)
def kX4_readItem : List fw_Ent := [
  (0, 1, .iconst 0, 0, 0), (1, 1, .istore_n 1, 0, 0), (2, 1, .iload_n 1, 0, 0), (3, 1, .iconst 4, 4, 0),
  (4, 3, .if_icmp .ge 22, 0, 26), (7, 1, .aload_n 0, 0, 0), (8, 1, .iload_n 1, 0, 0), (9, 3, .invokevirtual 36, 0, 0),
  (12, 1, .istore_n 2, 0, 0), (13, 1, .iload_n 2, 0, 0), (14, 1, .iconst (-1), (-1), 0), (15, 3, .if_icmp .eq 5, 0, 20),
  (18, 1, .iload_n 2, 0, 0), (19, 1, .ireturn, 0, 0), (20, 3, .iinc 1 1, 1, 0), (23, 3, .goto (-21), 0, 2),
  (26, 1, .iconst (-1), (-1), 0), (27, 1, .ireturn, 0, 0)]
theorem kX4_readItem_ok : fw_chk cX4_readItem 3 kX4_readItem = true := by decide +kernel
theorem kX4_readItem_cst : ∀ en ∈ kX4_readItem, fw_CstOK RX4 cst_X4 en := by
  have h : kX4_readItem.all (fw_cstq cp_X4) = true := by decide +kernel
  exact fun en he => fw_cstX cp_X4_ok cst_X4_ok (List.all_eq_true.mp h en he)
def kX4_readNumber : List fw_Ent := [
  (0, 1, .aload_n 0, 0, 0), (1, 3, .getfield 26, 0, 0), (4, 1, .istore_n 2, 0, 0), (5, 1, .iconst 0, 0, 0),
  (6, 1, .istore_n 3, 0, 0), (7, 1, .aload_n 0, 0, 0), (8, 3, .getfield 26, 0, 0), (11, 1, .aload_n 0, 0, 0),
  (12, 3, .getfield 18, 0, 0), (15, 3, .if_icmp .ge 71, 0, 86), (18, 1, .aload_n 0, 0, 0), (19, 3, .getfield 9, 0, 0),
  (22, 1, .aload_n 0, 0, 0), (23, 3, .getfield 26, 0, 0), (26, 3, .invokestatic 22, 0, 0), (29, 3, .invokestatic 40, 0, 0),
  (32, 3, .ifCond .eq 54, 0, 86), (35, 1, .aload_n 0, 0, 0), (36, 3, .getfield 26, 0, 0), (39, 1, .iload_n 2, 0, 0),
  (40, 1, .isub, 0, 0), (41, 1, .iload_n 1, 0, 0), (42, 3, .invokestatic 44, 0, 0), (45, 3, .if_icmp .lt 8, 0, 53),
  (48, 1, .aload_n 0, 0, 0), (49, 3, .getfield 26, 0, 0), (52, 1, .ireturn, 0, 0), (53, 1, .iload_n 3, 0, 0),
  (54, 2, .bipush 10, 10, 0), (56, 1, .imul, 0, 0), (57, 1, .aload_n 0, 0, 0), (58, 3, .getfield 9, 0, 0),
  (61, 1, .aload_n 0, 0, 0), (62, 3, .getfield 26, 0, 0), (65, 3, .invokestatic 22, 0, 0), (68, 1, .iadd, 0, 0),
  (69, 2, .bipush 48, 48, 0), (71, 1, .isub, 0, 0), (72, 1, .istore_n 3, 0, 0), (73, 1, .aload_n 0, 0, 0),
  (74, 1, .dup, 0, 0), (75, 3, .getfield 26, 0, 0), (78, 1, .iconst 1, 1, 0), (79, 1, .iadd, 0, 0),
  (80, 3, .putfield 26, 0, 0), (83, 3, .goto (-76), 0, 7), (86, 1, .aload_n 0, 0, 0), (87, 3, .getfield 26, 0, 0),
  (90, 1, .iload_n 2, 0, 0), (91, 3, .if_icmp .ne 8, 0, 99), (94, 1, .aload_n 0, 0, 0), (95, 3, .getfield 26, 0, 0),
  (98, 1, .ireturn, 0, 0), (99, 1, .aload_n 0, 0, 0), (100, 1, .iload_n 1, 0, 0), (101, 1, .iload_n 3, 0, 0),
  (102, 3, .invokevirtual 47, 0, 0), (105, 3, .ifCond .ne 5, 0, 110), (108, 1, .iload_n 2, 0, 0), (109, 1, .ireturn, 0, 0),
  (110, 1, .aload_n 0, 0, 0), (111, 3, .getfield 26, 0, 0), (114, 1, .aload_n 0, 0, 0), (115, 3, .getfield 18, 0, 0),
  (118, 3, .if_icmp .ge 21, 0, 139), (121, 1, .aload_n 0, 0, 0), (122, 3, .getfield 9, 0, 0), (125, 1, .aload_n 0, 0, 0),
  (126, 3, .getfield 26, 0, 0), (129, 3, .invokestatic 22, 0, 0), (132, 1, .iload_n 1, 0, 0), (133, 3, .invokestatic 51, 0, 0),
  (136, 3, .if_icmp .eq 8, 0, 144), (139, 1, .aload_n 0, 0, 0), (140, 3, .getfield 26, 0, 0), (143, 1, .ireturn, 0, 0),
  (144, 1, .aload_n 0, 0, 0), (145, 1, .dup, 0, 0), (146, 3, .getfield 26, 0, 0), (149, 1, .iconst 1, 1, 0),
  (150, 1, .iadd, 0, 0), (151, 3, .putfield 26, 0, 0), (154, 1, .aload_n 0, 0, 0), (155, 1, .iload_n 1, 0, 0),
  (156, 1, .iload_n 3, 0, 0), (157, 3, .invokevirtual 54, 0, 0), (160, 1, .iconst (-1), (-1), 0), (161, 1, .ireturn, 0, 0)]
theorem kX4_readNumber_ok : fw_chk cX4_readNumber 4 kX4_readNumber = true := by decide +kernel
theorem kX4_readNumber_cst : ∀ en ∈ kX4_readNumber, fw_CstOK RX4 cst_X4 en := by
  have h : kX4_readNumber.all (fw_cstq cp_X4) = true := by decide +kernel
  exact fun en he => fw_cstX cp_X4_ok cst_X4_ok (List.all_eq_true.mp h en he)
def kX4_keep : List fw_Ent := [
  (0, 1, .aload_n 0, 0, 0), (1, 3, .getfield 29, 0, 0), (4, 1, .iconst 4, 4, 0), (5, 1, .imul, 0, 0),
  (6, 1, .iload_n 1, 0, 0), (7, 1, .iadd, 0, 0), (8, 1, .istore_n 3, 0, 0), (9, 1, .iload_n 3, 0, 0),
  (10, 3, .ifCond .lt 19, 0, 29), (13, 1, .iload_n 3, 0, 0), (14, 1, .aload_n 0, 0, 0), (15, 3, .getfield 15, 0, 0),
  (18, 1, .arraylength, 0, 0), (19, 3, .if_icmp .ge 10, 0, 29), (22, 1, .aload_n 0, 0, 0), (23, 3, .getfield 15, 0, 0),
  (26, 1, .iload_n 3, 0, 0), (27, 1, .iload_n 2, 0, 0), (28, 1, .iastore, 0, 0), (29, 1, .return_, 0, 0)]
theorem kX4_keep_ok : fw_chk cX4_keep 4 kX4_keep = true := by decide +kernel
theorem kX4_keep_cst : ∀ en ∈ kX4_keep, fw_CstOK RX4 cst_X4 en := by
  have h : kX4_keep.all (fw_cstq cp_X4) = true := by decide +kernel
  exact fun en he => fw_cstX cp_X4_ok cst_X4_ok (List.all_eq_true.mp h en he)
def kX4_fits : List fw_Ent := [
  (0, 1, .iload_n 1, 0, 0), (1, 27, .tableswitch 63 0 2 #[27, 32, 58], 0, 0), (28, 1, .iload_n 2, 0, 0), (29, 3, .invokestatic 58, 0, 0),
  (32, 1, .ireturn, 0, 0), (33, 1, .iload_n 2, 0, 0), (34, 3, .invokestatic 58, 0, 0), (37, 3, .ifCond .eq 20, 0, 57),
  (40, 1, .iload_n 2, 0, 0), (41, 1, .aload_n 0, 0, 0), (42, 1, .aload_n 0, 0, 0), (43, 3, .getfield 29, 0, 0),
  (46, 1, .iconst 0, 0, 0), (47, 3, .invokevirtual 61, 0, 0), (50, 3, .if_icmp .eq 7, 0, 57), (53, 1, .iconst 1, 1, 0),
  (54, 3, .goto 4, 0, 58), (57, 1, .iconst 0, 0, 0), (58, 1, .ireturn, 0, 0), (59, 1, .iload_n 2, 0, 0),
  (60, 3, .invokestatic 65, 0, 0), (63, 1, .ireturn, 0, 0), (64, 1, .iload_n 2, 0, 0), (65, 3, .invokestatic 68, 0, 0),
  (68, 1, .ireturn, 0, 0)]
theorem kX4_fits_ok : fw_chk cX4_fits 3 kX4_fits = true := by decide +kernel
theorem kX4_fits_cst : ∀ en ∈ kX4_fits, fw_CstOK RX4 cst_X4 en := by
  have h : kX4_fits.all (fw_cstq cp_X4) = true := by decide +kernel
  exact fun en he => fw_cstX cp_X4_ok cst_X4_ok (List.all_eq_true.mp h en he)
def kX4_isDigit : List fw_Ent := [
  (0, 1, .iload_n 0, 0, 0), (1, 2, .bipush 48, 48, 0), (3, 3, .if_icmp .lt 13, 0, 16), (6, 1, .iload_n 0, 0, 0),
  (7, 2, .bipush 57, 57, 0), (9, 3, .if_icmp .gt 7, 0, 16), (12, 1, .iconst 1, 1, 0), (13, 3, .goto 4, 0, 17),
  (16, 1, .iconst 0, 0, 0), (17, 1, .ireturn, 0, 0)]
theorem kX4_isDigit_ok : fw_chk cX4_isDigit 1 kX4_isDigit = true := by decide +kernel
theorem kX4_isDigit_cst : ∀ en ∈ kX4_isDigit, fw_CstOK RX4 cst_X4 en := by
  have h : kX4_isDigit.all (fw_cstq cp_X4) = true := by decide +kernel
  exact fun en he => fw_cstX cp_X4_ok cst_X4_ok (List.all_eq_true.mp h en he)
def kX4_mostDigits : List fw_Ent := [
  (0, 1, .iload_n 0, 0, 0), (1, 27, .lookupswitch 31 #[(2, 27), (3, 29)], 0, 0), (28, 1, .iconst 3, 3, 0), (29, 1, .ireturn, 0, 0),
  (30, 1, .iconst 4, 4, 0), (31, 1, .ireturn, 0, 0), (32, 1, .iconst 2, 2, 0), (33, 1, .ireturn, 0, 0)]
theorem kX4_mostDigits_ok : fw_chk cX4_mostDigits 1 kX4_mostDigits = true := by decide +kernel
theorem kX4_mostDigits_cst : ∀ en ∈ kX4_mostDigits, fw_CstOK RX4 cst_X4 en := by
  have h : kX4_mostDigits.all (fw_cstq cp_X4) = true := by decide +kernel
  exact fun en he => fw_cstX cp_X4_ok cst_X4_ok (List.all_eq_true.mp h en he)
def kX4_endOf : List fw_Ent := [
  (0, 1, .iload_n 0, 0, 0), (1, 1, .iconst 3, 3, 0), (2, 3, .if_icmp .ne 8, 0, 10), (5, 2, .bipush 59, 59, 0),
  (7, 3, .goto 5, 0, 12), (10, 2, .bipush 44, 44, 0), (12, 1, .ireturn, 0, 0)]
theorem kX4_endOf_ok : fw_chk cX4_endOf 1 kX4_endOf = true := by decide +kernel
theorem kX4_endOf_cst : ∀ en ∈ kX4_endOf, fw_CstOK RX4 cst_X4 en := by
  have h : kX4_endOf.all (fw_cstq cp_X4) = true := by decide +kernel
  exact fun en he => fw_cstX cp_X4_ok cst_X4_ok (List.all_eq_true.mp h en he)
def kX5_addCourier : List fw_Ent := [
  (0, 1, .iload_n 1, 0, 0), (1, 3, .invokestatic 33, 0, 0), (4, 3, .ifCond .eq 10, 0, 14), (7, 1, .iload_n 2, 0, 0),
  (8, 3, .invokestatic 37, 0, 0), (11, 3, .ifCond .ne 11, 0, 22), (14, 3, .new 40, 0, 0), (17, 1, .dup, 0, 0),
  (18, 3, .invokespecial 42, 0, 0), (21, 1, .athrow, 0, 0), (22, 1, .aload_n 0, 0, 0), (23, 3, .getfield 10, 0, 0),
  (26, 3, .getfield 43, 0, 0), (29, 2, .bipush 6, 6, 0), (31, 3, .if_icmp .lt 11, 0, 42), (34, 3, .new 47, 0, 0),
  (37, 1, .dup, 0, 0), (38, 3, .invokespecial 49, 0, 0), (41, 1, .athrow, 0, 0), (42, 1, .aload_n 0, 0, 0),
  (43, 3, .getfield 22, 0, 0), (46, 1, .aload_n 0, 0, 0), (47, 3, .getfield 10, 0, 0), (50, 3, .invokevirtual 50, 0, 0),
  (53, 1, .aload_n 0, 0, 0), (54, 3, .getfield 10, 0, 0), (57, 1, .iload_n 1, 0, 0), (58, 1, .iload_n 2, 0, 0),
  (59, 3, .invokevirtual 54, 0, 0), (62, 1, .ireturn, 0, 0)]
theorem kX5_addCourier_ok : fw_chk cX5_addCourier 3 kX5_addCourier = true := by decide +kernel
theorem kX5_addCourier_cst : ∀ en ∈ kX5_addCourier, fw_CstOK RX5 cst_X5 en := by
  have h : kX5_addCourier.all (fw_cstq cp_X5) = true := by decide +kernel
  exact fun en he => fw_cstX cp_X5_ok cst_X5_ok (List.all_eq_true.mp h en he)
def kX5_setArea : List fw_Ent := [
  (0, 1, .aload_n 0, 0, 0), (1, 3, .getfield 10, 0, 0), (4, 1, .iload_n 1, 0, 0), (5, 3, .invokevirtual 58, 0, 0),
  (8, 1, .astore_n 3, 0, 0), (9, 1, .aload_n 3, 0, 0), (10, 3, .ifnonnull 11, 0, 21), (13, 3, .new 62, 0, 0),
  (16, 1, .dup, 0, 0), (17, 3, .invokespecial 64, 0, 0), (20, 1, .athrow, 0, 0), (21, 1, .iload_n 2, 0, 0),
  (22, 3, .invokestatic 33, 0, 0), (25, 3, .ifCond .ne 11, 0, 36), (28, 3, .new 40, 0, 0), (31, 1, .dup, 0, 0),
  (32, 3, .invokespecial 42, 0, 0), (35, 1, .athrow, 0, 0), (36, 1, .aload_n 0, 0, 0), (37, 3, .getfield 22, 0, 0),
  (40, 1, .aload_n 0, 0, 0), (41, 3, .getfield 10, 0, 0), (44, 3, .invokevirtual 50, 0, 0), (47, 1, .aload_n 3, 0, 0),
  (48, 3, .getfield 65, 0, 0), (51, 2, .istore 4, 0, 0), (53, 1, .aload_n 3, 0, 0), (54, 1, .iload_n 2, 0, 0),
  (55, 3, .putfield 65, 0, 0), (58, 2, .iload 4, 0, 0), (60, 1, .ireturn, 0, 0)]
theorem kX5_setArea_ok : fw_chk cX5_setArea 5 kX5_setArea = true := by decide +kernel
theorem kX5_setArea_cst : ∀ en ∈ kX5_setArea, fw_CstOK RX5 cst_X5 en := by
  have h : kX5_setArea.all (fw_cstq cp_X5) = true := by decide +kernel
  exact fun en he => fw_cstX cp_X5_ok cst_X5_ok (List.all_eq_true.mp h en he)
def kX5_give : List fw_Ent := [
  (0, 1, .iload_n 1, 0, 0), (1, 3, .invokestatic 37, 0, 0), (4, 3, .ifCond .eq 30, 0, 34), (7, 1, .iload_n 2, 0, 0),
  (8, 3, .invokestatic 37, 0, 0), (11, 3, .ifCond .eq 23, 0, 34), (14, 1, .iload_n 1, 0, 0), (15, 1, .iload_n 2, 0, 0),
  (16, 3, .if_icmp .eq 18, 0, 34), (19, 1, .iload_n 3, 0, 0), (20, 3, .invokestatic 70, 0, 0), (23, 3, .ifCond .eq 11, 0, 34),
  (26, 2, .iload 4, 0, 0), (28, 3, .invokestatic 73, 0, 0), (31, 3, .ifCond .ne 11, 0, 42), (34, 3, .new 40, 0, 0),
  (37, 1, .dup, 0, 0), (38, 3, .invokespecial 42, 0, 0), (41, 1, .athrow, 0, 0), (42, 1, .aload_n 0, 0, 0),
  (43, 3, .getfield 10, 0, 0), (46, 3, .getfield 76, 0, 0), (49, 2, .bipush 24, 24, 0), (51, 3, .if_icmp .lt 11, 0, 62),
  (54, 3, .new 47, 0, 0), (57, 1, .dup, 0, 0), (58, 3, .invokespecial 49, 0, 0), (61, 1, .athrow, 0, 0),
  (62, 1, .aload_n 0, 0, 0), (63, 3, .getfield 22, 0, 0), (66, 1, .aload_n 0, 0, 0), (67, 3, .getfield 10, 0, 0),
  (70, 3, .invokevirtual 50, 0, 0), (73, 1, .aload_n 0, 0, 0), (74, 3, .getfield 10, 0, 0), (77, 1, .iload_n 1, 0, 0),
  (78, 1, .iload_n 2, 0, 0), (79, 1, .iload_n 3, 0, 0), (80, 2, .iload 4, 0, 0), (82, 3, .invokevirtual 79, 0, 0),
  (85, 1, .ireturn, 0, 0)]
theorem kX5_give_ok : fw_chk cX5_give 5 kX5_give = true := by decide +kernel
theorem kX5_give_cst : ∀ en ∈ kX5_give, fw_CstOK RX5 cst_X5 en := by
  have h : kX5_give.all (fw_cstq cp_X5) = true := by decide +kernel
  exact fun en he => fw_cstX cp_X5_ok cst_X5_ok (List.all_eq_true.mp h en he)
def kX5_setGrace : List fw_Ent := [
  (0, 1, .iload_n 1, 0, 0), (1, 3, .ifCond .lt 9, 0, 10), (4, 1, .iload_n 1, 0, 0), (5, 2, .bipush 100, 100, 0),
  (7, 3, .if_icmp .le 11, 0, 18), (10, 3, .new 40, 0, 0), (13, 1, .dup, 0, 0), (14, 3, .invokespecial 42, 0, 0),
  (17, 1, .athrow, 0, 0), (18, 1, .aload_n 0, 0, 0), (19, 3, .getfield 22, 0, 0), (22, 1, .aload_n 0, 0, 0),
  (23, 3, .getfield 10, 0, 0), (26, 3, .invokevirtual 50, 0, 0), (29, 1, .aload_n 0, 0, 0), (30, 3, .getfield 10, 0, 0),
  (33, 3, .getfield 83, 0, 0), (36, 1, .istore_n 2, 0, 0), (37, 1, .aload_n 0, 0, 0), (38, 3, .getfield 10, 0, 0),
  (41, 1, .iload_n 1, 0, 0), (42, 3, .putfield 83, 0, 0), (45, 1, .iload_n 2, 0, 0), (46, 1, .ireturn, 0, 0)]
theorem kX5_setGrace_ok : fw_chk cX5_setGrace 3 kX5_setGrace = true := by decide +kernel
theorem kX5_setGrace_cst : ∀ en ∈ kX5_setGrace, fw_CstOK RX5 cst_X5 en := by
  have h : kX5_setGrace.all (fw_cstq cp_X5) = true := by decide +kernel
  exact fun en he => fw_cstX cp_X5_ok cst_X5_ok (List.all_eq_true.mp h en he)
def kX5_drop : List fw_Ent := [
  (0, 1, .aload_n 0, 0, 0), (1, 3, .getfield 10, 0, 0), (4, 1, .iload_n 1, 0, 0), (5, 3, .invokevirtual 58, 0, 0),
  (8, 1, .astore_n 2, 0, 0), (9, 1, .aload_n 2, 0, 0), (10, 3, .ifnonnull 11, 0, 21), (13, 3, .new 62, 0, 0),
  (16, 1, .dup, 0, 0), (17, 3, .invokespecial 64, 0, 0), (20, 1, .athrow, 0, 0), (21, 1, .aload_n 0, 0, 0),
  (22, 3, .getfield 22, 0, 0), (25, 1, .aload_n 0, 0, 0), (26, 3, .getfield 10, 0, 0), (29, 3, .invokevirtual 50, 0, 0),
  (32, 1, .aload_n 2, 0, 0), (33, 3, .getfield 86, 0, 0), (36, 1, .istore_n 3, 0, 0), (37, 1, .aload_n 0, 0, 0),
  (38, 3, .getfield 10, 0, 0), (41, 1, .aload_n 2, 0, 0), (42, 3, .invokevirtual 89, 0, 0), (45, 1, .iload_n 3, 0, 0),
  (46, 1, .ireturn, 0, 0)]
theorem kX5_drop_ok : fw_chk cX5_drop 4 kX5_drop = true := by decide +kernel
theorem kX5_drop_cst : ∀ en ∈ kX5_drop, fw_CstOK RX5 cst_X5 en := by
  have h : kX5_drop.all (fw_cstq cp_X5) = true := by decide +kernel
  exact fun en he => fw_cstX cp_X5_ok cst_X5_ok (List.all_eq_true.mp h en he)
def kX5_run : List fw_Ent := [
  (0, 1, .iload_n 1, 0, 0), (1, 3, .invokestatic 93, 0, 0), (4, 3, .ifCond .ne 11, 0, 15), (7, 3, .new 40, 0, 0),
  (10, 1, .dup, 0, 0), (11, 3, .invokespecial 42, 0, 0), (14, 1, .athrow, 0, 0), (15, 1, .aload_n 0, 0, 0),
  (16, 3, .getfield 10, 0, 0), (19, 3, .getfield 96, 0, 0), (22, 1, .iload_n 1, 0, 0), (23, 1, .iadd, 0, 0),
  (24, 3, .sipush 2000, 2000, 0), (27, 3, .if_icmp .le 11, 0, 38), (30, 3, .new 47, 0, 0), (33, 1, .dup, 0, 0),
  (34, 3, .invokespecial 49, 0, 0), (37, 1, .athrow, 0, 0), (38, 1, .aload_n 0, 0, 0), (39, 3, .getfield 22, 0, 0),
  (42, 1, .aload_n 0, 0, 0), (43, 3, .getfield 10, 0, 0), (46, 3, .invokevirtual 50, 0, 0), (49, 1, .aload_n 0, 0, 0),
  (50, 3, .getfield 10, 0, 0), (53, 1, .iconst 2, 2, 0), (54, 3, .invokevirtual 99, 0, 0), (57, 1, .istore_n 2, 0, 0),
  (58, 1, .aload_n 0, 0, 0), (59, 3, .getfield 10, 0, 0), (62, 1, .iload_n 1, 0, 0), (63, 3, .invokevirtual 103, 0, 0),
  (66, 1, .pop, 0, 0), (67, 1, .aload_n 0, 0, 0), (68, 3, .getfield 10, 0, 0), (71, 1, .iconst 2, 2, 0),
  (72, 3, .invokevirtual 99, 0, 0), (75, 1, .iload_n 2, 0, 0), (76, 1, .isub, 0, 0), (77, 1, .ireturn, 0, 0)]
theorem kX5_run_ok : fw_chk cX5_run 3 kX5_run = true := by decide +kernel
theorem kX5_run_cst : ∀ en ∈ kX5_run, fw_CstOK RX5 cst_X5 en := by
  have h : kX5_run.all (fw_cstq cp_X5) = true := by decide +kernel
  exact fun en he => fw_cstX cp_X5_ok cst_X5_ok (List.all_eq_true.mp h en he)
def kX5_value : List fw_Ent := [
  (0, 1, .iload_n 1, 0, 0), (1, 3, .ifCond .lt 9, 0, 10), (4, 1, .iload_n 1, 0, 0), (5, 2, .bipush 10, 10, 0),
  (7, 3, .if_icmp .le 11, 0, 18), (10, 3, .new 40, 0, 0), (13, 1, .dup, 0, 0), (14, 3, .invokespecial 42, 0, 0),
  (17, 1, .athrow, 0, 0), (18, 1, .aload_n 0, 0, 0), (19, 3, .getfield 10, 0, 0), (22, 1, .iload_n 1, 0, 0),
  (23, 3, .invokevirtual 106, 0, 0), (26, 1, .ireturn, 0, 0)]
theorem kX5_value_ok : fw_chk cX5_value 2 kX5_value = true := by decide +kernel
theorem kX5_value_cst : ∀ en ∈ kX5_value, fw_CstOK RX5 cst_X5 en := by
  have h : kX5_value.all (fw_cstq cp_X5) = true := by decide +kernel
  exact fun en he => fw_cstX cp_X5_ok cst_X5_ok (List.all_eq_true.mp h en he)
def kX5_courier : List fw_Ent := [
  (0, 1, .aload_n 0, 0, 0), (1, 3, .getfield 10, 0, 0), (4, 1, .iload_n 1, 0, 0), (5, 3, .invokevirtual 58, 0, 0),
  (8, 1, .astore_n 3, 0, 0), (9, 1, .aload_n 3, 0, 0), (10, 3, .ifnonnull 11, 0, 21), (13, 3, .new 62, 0, 0),
  (16, 1, .dup, 0, 0), (17, 3, .invokespecial 64, 0, 0), (20, 1, .athrow, 0, 0), (21, 1, .iload_n 2, 0, 0),
  (22, 3, .ifCond .lt 8, 0, 30), (25, 1, .iload_n 2, 0, 0), (26, 1, .iconst 5, 5, 0), (27, 3, .if_icmp .le 11, 0, 38),
  (30, 3, .new 40, 0, 0), (33, 1, .dup, 0, 0), (34, 3, .invokespecial 42, 0, 0), (37, 1, .athrow, 0, 0),
  (38, 1, .aload_n 0, 0, 0), (39, 3, .getfield 10, 0, 0), (42, 1, .aload_n 3, 0, 0), (43, 1, .iload_n 1, 0, 0),
  (44, 1, .iload_n 2, 0, 0), (45, 3, .invokevirtual 109, 0, 0), (48, 1, .ireturn, 0, 0)]
theorem kX5_courier_ok : fw_chk cX5_courier 4 kX5_courier = true := by decide +kernel
theorem kX5_courier_cst : ∀ en ∈ kX5_courier, fw_CstOK RX5 cst_X5 en := by
  have h : kX5_courier.all (fw_cstq cp_X5) = true := by decide +kernel
  exact fun en he => fw_cstX cp_X5_ok cst_X5_ok (List.all_eq_true.mp h en he)
def kX5_parcel : List fw_Ent := [
  (0, 1, .aload_n 0, 0, 0), (1, 3, .getfield 10, 0, 0), (4, 1, .iload_n 1, 0, 0), (5, 3, .invokevirtual 113, 0, 0),
  (8, 1, .astore_n 3, 0, 0), (9, 1, .aload_n 3, 0, 0), (10, 3, .ifnonnull 11, 0, 21), (13, 3, .new 62, 0, 0),
  (16, 1, .dup, 0, 0), (17, 3, .invokespecial 64, 0, 0), (20, 1, .athrow, 0, 0), (21, 1, .iload_n 2, 0, 0),
  (22, 3, .ifCond .lt 9, 0, 31), (25, 1, .iload_n 2, 0, 0), (26, 2, .bipush 8, 8, 0), (28, 3, .if_icmp .le 11, 0, 39),
  (31, 3, .new 40, 0, 0), (34, 1, .dup, 0, 0), (35, 3, .invokespecial 42, 0, 0), (38, 1, .athrow, 0, 0),
  (39, 1, .aload_n 3, 0, 0), (40, 1, .iload_n 2, 0, 0), (41, 3, .invokevirtual 117, 0, 0), (44, 1, .ireturn, 0, 0)]
theorem kX5_parcel_ok : fw_chk cX5_parcel 4 kX5_parcel = true := by decide +kernel
theorem kX5_parcel_cst : ∀ en ∈ kX5_parcel, fw_CstOK RX5 cst_X5 en := by
  have h : kX5_parcel.all (fw_cstq cp_X5) = true := by decide +kernel
  exact fun en he => fw_cstX cp_X5_ok cst_X5_ok (List.all_eq_true.mp h en he)
def kX5_legs : List fw_Ent := [
  (0, 1, .aload_n 0, 0, 0), (1, 3, .getfield 10, 0, 0), (4, 1, .iload_n 1, 0, 0), (5, 3, .invokevirtual 113, 0, 0),
  (8, 2, .astore 4, 0, 0), (10, 2, .aload 4, 0, 0), (12, 3, .ifnull 14, 0, 26), (15, 1, .aload_n 0, 0, 0),
  (16, 3, .getfield 10, 0, 0), (19, 1, .iload_n 2, 0, 0), (20, 3, .invokevirtual 58, 0, 0), (23, 3, .ifnonnull 11, 0, 34),
  (26, 3, .new 62, 0, 0), (29, 1, .dup, 0, 0), (30, 3, .invokespecial 64, 0, 0), (33, 1, .athrow, 0, 0),
  (34, 1, .iload_n 3, 0, 0), (35, 3, .ifCond .eq 12, 0, 47), (38, 2, .aload 4, 0, 0), (40, 1, .iload_n 2, 0, 0),
  (41, 3, .invokevirtual 120, 0, 0), (44, 3, .goto 9, 0, 53), (47, 2, .aload 4, 0, 0), (49, 1, .iload_n 2, 0, 0),
  (50, 3, .invokevirtual 123, 0, 0), (53, 1, .ireturn, 0, 0)]
theorem kX5_legs_ok : fw_chk cX5_legs 5 kX5_legs = true := by decide +kernel
theorem kX5_legs_cst : ∀ en ∈ kX5_legs, fw_CstOK RX5 cst_X5 en := by
  have h : kX5_legs.all (fw_cstq cp_X5) = true := by decide +kernel
  exact fun en he => fw_cstX cp_X5_ok cst_X5_ok (List.all_eq_true.mp h en he)
def kX5_distance : List fw_Ent := [
  (0, 1, .iload_n 1, 0, 0), (1, 3, .invokestatic 37, 0, 0), (4, 3, .ifCond .eq 10, 0, 14), (7, 1, .iload_n 2, 0, 0),
  (8, 3, .invokestatic 37, 0, 0), (11, 3, .ifCond .ne 11, 0, 22), (14, 3, .new 62, 0, 0), (17, 1, .dup, 0, 0),
  (18, 3, .invokespecial 64, 0, 0), (21, 1, .athrow, 0, 0), (22, 1, .iload_n 1, 0, 0), (23, 1, .iconst 4, 4, 0),
  (24, 1, .idiv, 0, 0), (25, 1, .iload_n 2, 0, 0), (26, 1, .iconst 4, 4, 0), (27, 1, .idiv, 0, 0),
  (28, 1, .isub, 0, 0), (29, 3, .invokestatic 126, 0, 0), (32, 1, .iload_n 1, 0, 0), (33, 1, .iconst 4, 4, 0),
  (34, 1, .irem, 0, 0), (35, 1, .iload_n 2, 0, 0), (36, 1, .iconst 4, 4, 0), (37, 1, .irem, 0, 0),
  (38, 1, .isub, 0, 0), (39, 3, .invokestatic 126, 0, 0), (42, 1, .iadd, 0, 0), (43, 1, .ireturn, 0, 0)]
theorem kX5_distance_ok : fw_chk cX5_distance 3 kX5_distance = true := by decide +kernel
theorem kX5_distance_cst : ∀ en ∈ kX5_distance, fw_CstOK RX5 cst_X5 en := by
  have h : kX5_distance.all (fw_cstq cp_X5) = true := by decide +kernel
  exact fun en he => fw_cstX cp_X5_ok cst_X5_ok (List.all_eq_true.mp h en he)
def kX5_suited : List fw_Ent := [
  (0, 1, .aload_n 0, 0, 0), (1, 3, .getfield 10, 0, 0), (4, 1, .iload_n 1, 0, 0), (5, 3, .invokevirtual 113, 0, 0),
  (8, 1, .astore_n 2, 0, 0), (9, 1, .aload_n 2, 0, 0), (10, 3, .ifnonnull 11, 0, 21), (13, 3, .new 62, 0, 0),
  (16, 1, .dup, 0, 0), (17, 3, .invokespecial 64, 0, 0), (20, 1, .athrow, 0, 0), (21, 1, .aload_n 2, 0, 0),
  (22, 3, .invokevirtual 131, 0, 0), (25, 3, .ifCond .eq 28, 0, 53), (28, 1, .aload_n 0, 0, 0), (29, 3, .getfield 10, 0, 0),
  (32, 1, .aload_n 2, 0, 0), (33, 3, .getfield 135, 0, 0), (36, 1, .aload_n 2, 0, 0), (37, 3, .getfield 135, 0, 0),
  (40, 1, .aload_n 2, 0, 0), (41, 3, .getfield 138, 0, 0), (44, 3, .invokestatic 141, 0, 0), (47, 3, .invokevirtual 144, 0, 0),
  (50, 3, .goto 4, 0, 54), (53, 1, .iconst 0, 0, 0), (54, 1, .ireturn, 0, 0)]
theorem kX5_suited_ok : fw_chk cX5_suited 3 kX5_suited = true := by decide +kernel
theorem kX5_suited_cst : ∀ en ∈ kX5_suited, fw_CstOK RX5 cst_X5 en := by
  have h : kX5_suited.all (fw_cstq cp_X5) = true := by decide +kernel
  exact fun en he => fw_cstX cp_X5_ok cst_X5_ok (List.all_eq_true.mp h en he)
def kX5_leastRelay : List fw_Ent := [
  (0, 1, .aload_n 0, 0, 0), (1, 3, .getfield 10, 0, 0), (4, 1, .iload_n 1, 0, 0), (5, 3, .invokevirtual 113, 0, 0),
  (8, 1, .astore_n 2, 0, 0), (9, 1, .aload_n 2, 0, 0), (10, 3, .ifnonnull 11, 0, 21), (13, 3, .new 62, 0, 0),
  (16, 1, .dup, 0, 0), (17, 3, .invokespecial 64, 0, 0), (20, 1, .athrow, 0, 0), (21, 1, .aload_n 0, 0, 0),
  (22, 3, .getfield 10, 0, 0), (25, 1, .aload_n 2, 0, 0), (26, 3, .getfield 147, 0, 0), (29, 1, .aload_n 2, 0, 0),
  (30, 3, .getfield 138, 0, 0), (33, 3, .invokevirtual 150, 0, 0), (36, 1, .ireturn, 0, 0)]
theorem kX5_leastRelay_ok : fw_chk cX5_leastRelay 3 kX5_leastRelay = true := by decide +kernel
theorem kX5_leastRelay_cst : ∀ en ∈ kX5_leastRelay, fw_CstOK RX5 cst_X5 en := by
  have h : kX5_leastRelay.all (fw_cstq cp_X5) = true := by decide +kernel
  exact fun en he => fw_cstX cp_X5_ok cst_X5_ok (List.all_eq_true.mp h en he)
def kX5_punctuality : List fw_Ent := [
  (0, 1, .aload_n 0, 0, 0), (1, 3, .getfield 10, 0, 0), (4, 1, .iconst 2, 2, 0), (5, 3, .invokevirtual 99, 0, 0),
  (8, 1, .aload_n 0, 0, 0), (9, 3, .getfield 10, 0, 0), (12, 1, .iconst 3, 3, 0), (13, 3, .invokevirtual 99, 0, 0),
  (16, 1, .iadd, 0, 0), (17, 1, .istore_n 1, 0, 0), (18, 1, .iload_n 1, 0, 0), (19, 3, .ifCond .le 17, 0, 36),
  (22, 1, .aload_n 0, 0, 0), (23, 3, .getfield 10, 0, 0), (26, 3, .invokevirtual 153, 0, 0), (29, 1, .i2d, 0, 0),
  (30, 1, .iload_n 1, 0, 0), (31, 1, .i2d, 0, 0), (32, 1, .ddiv, 0, 0), (33, 3, .goto 4, 0, 37),
  (36, 1, .dconst 1, 0, 0), (37, 1, .dreturn, 0, 0)]
theorem kX5_punctuality_ok : fw_chk cX5_punctuality 2 kX5_punctuality = true := by decide +kernel
theorem kX5_punctuality_cst : ∀ en ∈ kX5_punctuality, fw_CstOK RX5 cst_X5 en := by
  have h : kX5_punctuality.all (fw_cstq cp_X5) = true := by decide +kernel
  exact fun en he => fw_cstX cp_X5_ok cst_X5_ok (List.all_eq_true.mp h en he)
def kX5_paidIn : List fw_Ent := [
  (0, 1, .iload_n 1, 0, 0), (1, 3, .invokestatic 93, 0, 0), (4, 3, .ifCond .ne 11, 0, 15), (7, 3, .new 40, 0, 0),
  (10, 1, .dup, 0, 0), (11, 3, .invokespecial 42, 0, 0), (14, 1, .athrow, 0, 0), (15, 1, .aload_n 0, 0, 0),
  (16, 3, .getfield 16, 0, 0), (19, 1, .aload_n 0, 0, 0), (20, 3, .getfield 10, 0, 0), (23, 3, .invokevirtual 157, 0, 0),
  (26, 1, .aload_n 0, 0, 0), (27, 3, .getfield 16, 0, 0), (30, 1, .iload_n 1, 0, 0), (31, 3, .invokevirtual 103, 0, 0),
  (34, 1, .ireturn, 0, 0)]
theorem kX5_paidIn_ok : fw_chk cX5_paidIn 2 kX5_paidIn = true := by decide +kernel
theorem kX5_paidIn_cst : ∀ en ∈ kX5_paidIn, fw_CstOK RX5 cst_X5 en := by
  have h : kX5_paidIn.all (fw_cstq cp_X5) = true := by decide +kernel
  exact fun en he => fw_cstX cp_X5_ok cst_X5_ok (List.all_eq_true.mp h en he)
def kX5_bestZone : List fw_Ent := [
  (0, 1, .aload_n 0, 0, 0), (1, 3, .getfield 10, 0, 0), (4, 1, .iload_n 1, 0, 0), (5, 3, .invokevirtual 58, 0, 0),
  (8, 1, .astore_n 3, 0, 0), (9, 1, .aload_n 3, 0, 0), (10, 3, .ifnonnull 11, 0, 21), (13, 3, .new 62, 0, 0),
  (16, 1, .dup, 0, 0), (17, 3, .invokespecial 64, 0, 0), (20, 1, .athrow, 0, 0), (21, 1, .iload_n 2, 0, 0),
  (22, 3, .invokestatic 93, 0, 0), (25, 3, .ifCond .ne 11, 0, 36), (28, 3, .new 40, 0, 0), (31, 1, .dup, 0, 0),
  (32, 3, .invokespecial 42, 0, 0), (35, 1, .athrow, 0, 0), (36, 1, .aload_n 0, 0, 0), (37, 3, .getfield 16, 0, 0),
  (40, 1, .aload_n 0, 0, 0), (41, 3, .getfield 10, 0, 0), (44, 3, .invokevirtual 157, 0, 0), (47, 1, .aload_n 0, 0, 0),
  (48, 3, .getfield 16, 0, 0), (51, 1, .iload_n 2, 0, 0), (52, 3, .invokevirtual 103, 0, 0), (55, 2, .istore 4, 0, 0),
  (57, 1, .iconst (-1), (-1), 0), (58, 2, .istore 5, 0, 0), (60, 1, .iconst 0, 0, 0), (61, 2, .istore 6, 0, 0),
  (63, 2, .iload 6, 0, 0), (65, 2, .bipush 16, 16, 0), (67, 3, .if_icmp .ge 67, 0, 134), (70, 1, .aload_n 3, 0, 0),
  (71, 3, .getfield 65, 0, 0), (74, 2, .iload 6, 0, 0), (76, 3, .invokestatic 160, 0, 0), (79, 3, .ifCond .ne 49, 0, 128),
  (82, 1, .aload_n 0, 0, 0), (83, 3, .getfield 16, 0, 0), (86, 1, .aload_n 0, 0, 0), (87, 3, .getfield 10, 0, 0),
  (90, 3, .invokevirtual 157, 0, 0), (93, 1, .aload_n 0, 0, 0), (94, 3, .getfield 16, 0, 0), (97, 1, .iload_n 1, 0, 0),
  (98, 2, .iload 6, 0, 0), (100, 3, .invokevirtual 164, 0, 0), (103, 1, .aload_n 0, 0, 0), (104, 3, .getfield 16, 0, 0),
  (107, 1, .iload_n 2, 0, 0), (108, 3, .invokevirtual 103, 0, 0), (111, 2, .istore 7, 0, 0), (113, 2, .iload 7, 0, 0),
  (115, 2, .iload 4, 0, 0), (117, 3, .if_icmp .le 11, 0, 128), (120, 2, .iload 7, 0, 0), (122, 2, .istore 4, 0, 0),
  (124, 2, .iload 6, 0, 0), (126, 2, .istore 5, 0, 0), (128, 3, .iinc 6 1, 1, 0), (131, 3, .goto (-68), 0, 63),
  (134, 2, .iload 5, 0, 0), (136, 1, .ireturn, 0, 0)]
theorem kX5_bestZone_ok : fw_chk cX5_bestZone 8 kX5_bestZone = true := by decide +kernel
theorem kX5_bestZone_cst : ∀ en ∈ kX5_bestZone, fw_CstOK RX5 cst_X5 en := by
  have h : kX5_bestZone.all (fw_cstq cp_X5) = true := by decide +kernel
  exact fun en he => fw_cstX cp_X5_ok cst_X5_ok (List.all_eq_true.mp h en he)
def kX5_worth : List fw_Ent := [
  (0, 1, .aload_n 0, 0, 0), (1, 3, .getfield 10, 0, 0), (4, 1, .iload_n 1, 0, 0), (5, 3, .invokevirtual 58, 0, 0),
  (8, 3, .ifnonnull 11, 0, 19), (11, 3, .new 62, 0, 0), (14, 1, .dup, 0, 0), (15, 3, .invokespecial 64, 0, 0),
  (18, 1, .athrow, 0, 0), (19, 1, .iload_n 2, 0, 0), (20, 3, .invokestatic 93, 0, 0), (23, 3, .ifCond .ne 11, 0, 34),
  (26, 3, .new 40, 0, 0), (29, 1, .dup, 0, 0), (30, 3, .invokespecial 42, 0, 0), (33, 1, .athrow, 0, 0),
  (34, 1, .aload_n 0, 0, 0), (35, 3, .getfield 16, 0, 0), (38, 1, .aload_n 0, 0, 0), (39, 3, .getfield 10, 0, 0),
  (42, 3, .invokevirtual 157, 0, 0), (45, 1, .aload_n 0, 0, 0), (46, 3, .getfield 16, 0, 0), (49, 1, .iload_n 2, 0, 0),
  (50, 3, .invokevirtual 103, 0, 0), (53, 1, .istore_n 3, 0, 0), (54, 1, .aload_n 0, 0, 0), (55, 3, .getfield 16, 0, 0),
  (58, 1, .aload_n 0, 0, 0), (59, 3, .getfield 10, 0, 0), (62, 3, .invokevirtual 157, 0, 0), (65, 1, .aload_n 0, 0, 0),
  (66, 3, .getfield 16, 0, 0), (69, 1, .iload_n 1, 0, 0), (70, 3, .invokevirtual 168, 0, 0), (73, 1, .iload_n 3, 0, 0),
  (74, 1, .aload_n 0, 0, 0), (75, 3, .getfield 16, 0, 0), (78, 1, .iload_n 2, 0, 0), (79, 3, .invokevirtual 103, 0, 0),
  (82, 1, .isub, 0, 0), (83, 1, .ireturn, 0, 0)]
theorem kX5_worth_ok : fw_chk cX5_worth 4 kX5_worth = true := by decide +kernel
theorem kX5_worth_cst : ∀ en ∈ kX5_worth, fw_CstOK RX5 cst_X5 en := by
  have h : kX5_worth.all (fw_cstq cp_X5) = true := by decide +kernel
  exact fun en he => fw_cstX cp_X5_ok cst_X5_ok (List.all_eq_true.mp h en he)
def kX5_doneIn : List fw_Ent := [
  (0, 1, .aload_n 0, 0, 0), (1, 3, .getfield 16, 0, 0), (4, 1, .aload_n 0, 0, 0), (5, 3, .getfield 10, 0, 0),
  (8, 3, .invokevirtual 157, 0, 0), (11, 1, .aload_n 0, 0, 0), (12, 3, .getfield 16, 0, 0), (15, 3, .invokevirtual 172, 0, 0),
  (18, 1, .ireturn, 0, 0)]
theorem kX5_doneIn_ok : fw_chk cX5_doneIn 1 kX5_doneIn = true := by decide +kernel
theorem kX5_doneIn_cst : ∀ en ∈ kX5_doneIn, fw_CstOK RX5 cst_X5 en := by
  have h : kX5_doneIn.all (fw_cstq cp_X5) = true := by decide +kernel
  exact fun en he => fw_cstX cp_X5_ok cst_X5_ok (List.all_eq_true.mp h en he)
def kX5_append : List fw_Ent := [
  (0, 1, .iload_n 1, 0, 0), (1, 3, .ifCond .lt 9, 0, 10), (4, 1, .iload_n 1, 0, 0), (5, 2, .bipush 127, 127, 0),
  (7, 3, .if_icmp .le 11, 0, 18), (10, 3, .new 40, 0, 0), (13, 1, .dup, 0, 0), (14, 3, .invokespecial 42, 0, 0),
  (17, 1, .athrow, 0, 0), (18, 1, .aload_n 0, 0, 0), (19, 3, .getfield 29, 0, 0), (22, 3, .getfield 175, 0, 0),
  (25, 3, .sipush 150, 150, 0), (28, 3, .if_icmp .lt 11, 0, 39), (31, 3, .new 47, 0, 0), (34, 1, .dup, 0, 0),
  (35, 3, .invokespecial 49, 0, 0), (38, 1, .athrow, 0, 0), (39, 1, .aload_n 0, 0, 0), (40, 3, .getfield 29, 0, 0),
  (43, 1, .iload_n 1, 0, 0), (44, 3, .invokevirtual 178, 0, 0), (47, 1, .aload_n 0, 0, 0), (48, 3, .getfield 29, 0, 0),
  (51, 3, .getfield 175, 0, 0), (54, 1, .ireturn, 0, 0)]
theorem kX5_append_ok : fw_chk cX5_append 2 kX5_append = true := by decide +kernel
theorem kX5_append_cst : ∀ en ∈ kX5_append, fw_CstOK RX5 cst_X5 en := by
  have h : kX5_append.all (fw_cstq cp_X5) = true := by decide +kernel
  exact fun en he => fw_cstX cp_X5_ok cst_X5_ok (List.all_eq_true.mp h en he)
def kX5_clearText : List fw_Ent := [
  (0, 1, .aload_n 0, 0, 0), (1, 3, .getfield 29, 0, 0), (4, 3, .getfield 175, 0, 0), (7, 1, .istore_n 1, 0, 0),
  (8, 1, .aload_n 0, 0, 0), (9, 3, .getfield 29, 0, 0), (12, 1, .iconst 0, 0, 0), (13, 3, .putfield 175, 0, 0),
  (16, 1, .iload_n 1, 0, 0), (17, 1, .ireturn, 0, 0)]
theorem kX5_clearText_ok : fw_chk cX5_clearText 2 kX5_clearText = true := by decide +kernel
theorem kX5_clearText_cst : ∀ en ∈ kX5_clearText, fw_CstOK RX5 cst_X5 en := by
  have h : kX5_clearText.all (fw_cstq cp_X5) = true := by decide +kernel
  exact fun en he => fw_cstX cp_X5_ok cst_X5_ok (List.all_eq_true.mp h en he)
def kX5_parse : List fw_Ent := [
  (0, 1, .aload_n 0, 0, 0), (1, 3, .getfield 29, 0, 0), (4, 2, .bipush 24, 24, 0), (6, 1, .aload_n 0, 0, 0),
  (7, 3, .getfield 10, 0, 0), (10, 3, .getfield 76, 0, 0), (13, 1, .isub, 0, 0), (14, 3, .invokevirtual 181, 0, 0),
  (17, 1, .istore_n 1, 0, 0), (18, 1, .iload_n 1, 0, 0), (19, 1, .iconst (-1), (-1), 0), (20, 3, .if_icmp .eq 8, 0, 28),
  (23, 2, .bipush (-10), (-10), 0), (25, 1, .iload_n 1, 0, 0), (26, 1, .isub, 0, 0), (27, 1, .ireturn, 0, 0),
  (28, 1, .aload_n 0, 0, 0), (29, 3, .getfield 22, 0, 0), (32, 1, .aload_n 0, 0, 0), (33, 3, .getfield 10, 0, 0),
  (36, 3, .invokevirtual 50, 0, 0), (39, 1, .iconst 0, 0, 0), (40, 1, .istore_n 2, 0, 0), (41, 1, .iload_n 2, 0, 0),
  (42, 1, .aload_n 0, 0, 0), (43, 3, .getfield 29, 0, 0), (46, 3, .getfield 184, 0, 0), (49, 3, .if_icmp .ge 53, 0, 102),
  (52, 1, .aload_n 0, 0, 0), (53, 3, .getfield 10, 0, 0), (56, 1, .aload_n 0, 0, 0), (57, 3, .getfield 29, 0, 0),
  (60, 1, .iload_n 2, 0, 0), (61, 1, .iconst 0, 0, 0), (62, 3, .invokevirtual 187, 0, 0), (65, 1, .aload_n 0, 0, 0),
  (66, 3, .getfield 29, 0, 0), (69, 1, .iload_n 2, 0, 0), (70, 1, .iconst 1, 1, 0), (71, 3, .invokevirtual 187, 0, 0),
  (74, 1, .aload_n 0, 0, 0), (75, 3, .getfield 29, 0, 0), (78, 1, .iload_n 2, 0, 0), (79, 1, .iconst 2, 2, 0),
  (80, 3, .invokevirtual 187, 0, 0), (83, 1, .aload_n 0, 0, 0), (84, 3, .getfield 29, 0, 0), (87, 1, .iload_n 2, 0, 0),
  (88, 1, .iconst 3, 3, 0), (89, 3, .invokevirtual 187, 0, 0), (92, 3, .invokevirtual 79, 0, 0), (95, 1, .pop, 0, 0),
  (96, 3, .iinc 2 1, 1, 0), (99, 3, .goto (-58), 0, 41), (102, 1, .aload_n 0, 0, 0), (103, 3, .getfield 10, 0, 0),
  (106, 3, .getfield 76, 0, 0), (109, 1, .ireturn, 0, 0)]
theorem kX5_parse_ok : fw_chk cX5_parse 3 kX5_parse = true := by decide +kernel
theorem kX5_parse_cst : ∀ en ∈ kX5_parse, fw_CstOK RX5 cst_X5 en := by
  have h : kX5_parse.all (fw_cstq cp_X5) = true := by decide +kernel
  exact fun en he => fw_cstX cp_X5_ok cst_X5_ok (List.all_eq_true.mp h en he)
def kX5_undo : List fw_Ent := [
  (0, 1, .aload_n 0, 0, 0), (1, 3, .getfield 22, 0, 0), (4, 3, .getfield 190, 0, 0), (7, 3, .ifCond .gt 11, 0, 18),
  (10, 3, .new 47, 0, 0), (13, 1, .dup, 0, 0), (14, 3, .invokespecial 49, 0, 0), (17, 1, .athrow, 0, 0),
  (18, 1, .aload_n 0, 0, 0), (19, 3, .getfield 22, 0, 0), (22, 1, .aload_n 0, 0, 0), (23, 3, .getfield 10, 0, 0),
  (26, 3, .invokevirtual 193, 0, 0), (29, 1, .aload_n 0, 0, 0), (30, 3, .getfield 22, 0, 0), (33, 3, .getfield 190, 0, 0),
  (36, 1, .ireturn, 0, 0)]
theorem kX5_undo_ok : fw_chk cX5_undo 1 kX5_undo = true := by decide +kernel
theorem kX5_undo_cst : ∀ en ∈ kX5_undo, fw_CstOK RX5 cst_X5 en := by
  have h : kX5_undo.all (fw_cstq cp_X5) = true := by decide +kernel
  exact fun en he => fw_cstX cp_X5_ok cst_X5_ok (List.all_eq_true.mp h en he)
def kX5_digest : List fw_Ent := [
  (0, 3, .ldc2_w 196, 0, 0), (3, 1, .aload_n 0, 0, 0), (4, 3, .getfield 29, 0, 0), (7, 3, .getfield 175, 0, 0),
  (10, 1, .i2l, 0, 0), (11, 1, .ladd, 0, 0), (12, 1, .lstore_n 1, 0, 0), (13, 1, .iconst 0, 0, 0),
  (14, 1, .istore_n 3, 0, 0), (15, 1, .iload_n 3, 0, 0), (16, 2, .bipush 10, 10, 0), (18, 3, .if_icmp .gt 25, 0, 43),
  (21, 3, .ldc2_w 198, 0, 0), (24, 1, .lload_n 1, 0, 0), (25, 1, .lmul, 0, 0), (26, 1, .aload_n 0, 0, 0),
  (27, 3, .getfield 10, 0, 0), (30, 1, .iload_n 3, 0, 0), (31, 3, .invokevirtual 106, 0, 0), (34, 1, .i2l, 0, 0),
  (35, 1, .ladd, 0, 0), (36, 1, .lstore_n 1, 0, 0), (37, 3, .iinc 3 1, 1, 0), (40, 3, .goto (-25), 0, 15),
  (43, 1, .aload_n 0, 0, 0), (44, 3, .getfield 10, 0, 0), (47, 1, .lload_n 1, 0, 0), (48, 3, .invokevirtual 200, 0, 0),
  (51, 1, .lstore_n 1, 0, 0), (52, 1, .aload_n 0, 0, 0), (53, 3, .getfield 10, 0, 0), (56, 1, .lload_n 1, 0, 0),
  (57, 3, .invokevirtual 204, 0, 0), (60, 1, .lstore_n 1, 0, 0), (61, 3, .ldc2_w 198, 0, 0), (64, 1, .lload_n 1, 0, 0),
  (65, 1, .lmul, 0, 0), (66, 1, .aload_n 0, 0, 0), (67, 3, .getfield 22, 0, 0), (70, 3, .getfield 190, 0, 0),
  (73, 1, .i2l, 0, 0), (74, 1, .ladd, 0, 0), (75, 1, .lreturn, 0, 0)]
theorem kX5_digest_ok : fw_chk cX5_digest 4 kX5_digest = true := by decide +kernel
theorem kX5_digest_cst : ∀ en ∈ kX5_digest, fw_CstOK RX5 cst_X5 en := by
  have h : kX5_digest.all (fw_cstq cp_X5) = true := by decide +kernel
  exact fun en he => fw_cstX cp_X5_ok cst_X5_ok (List.all_eq_true.mp h en he)
def kX5_isZone : List fw_Ent := [
  (0, 1, .iload_n 0, 0, 0), (1, 3, .ifCond .lt 13, 0, 14), (4, 1, .iload_n 0, 0, 0), (5, 2, .bipush 16, 16, 0),
  (7, 3, .if_icmp .ge 7, 0, 14), (10, 1, .iconst 1, 1, 0), (11, 3, .goto 4, 0, 15), (14, 1, .iconst 0, 0, 0),
  (15, 1, .ireturn, 0, 0)]
theorem kX5_isZone_ok : fw_chk cX5_isZone 1 kX5_isZone = true := by decide +kernel
theorem kX5_isZone_cst : ∀ en ∈ kX5_isZone, fw_CstOK RX5 cst_X5 en := by
  have h : kX5_isZone.all (fw_cstq cp_X5) = true := by decide +kernel
  exact fun en he => fw_cstX cp_X5_ok cst_X5_ok (List.all_eq_true.mp h en he)
def kX5_isArea : List fw_Ent := [
  (0, 1, .iload_n 0, 0, 0), (1, 3, .ifCond .lt 13, 0, 14), (4, 1, .iload_n 0, 0, 0), (5, 2, .ldc 207, 65535, 0),
  (7, 3, .if_icmp .gt 7, 0, 14), (10, 1, .iconst 1, 1, 0), (11, 3, .goto 4, 0, 15), (14, 1, .iconst 0, 0, 0),
  (15, 1, .ireturn, 0, 0)]
theorem kX5_isArea_ok : fw_chk cX5_isArea 1 kX5_isArea = true := by decide +kernel
theorem kX5_isArea_cst : ∀ en ∈ kX5_isArea, fw_CstOK RX5 cst_X5 en := by
  have h : kX5_isArea.all (fw_cstq cp_X5) = true := by decide +kernel
  exact fun en he => fw_cstX cp_X5_ok cst_X5_ok (List.all_eq_true.mp h en he)
def kX5_isCutOff : List fw_Ent := [
  (0, 1, .iload_n 0, 0, 0), (1, 1, .iconst 1, 1, 0), (2, 3, .if_icmp .lt 14, 0, 16), (5, 1, .iload_n 0, 0, 0),
  (6, 3, .sipush 999, 999, 0), (9, 3, .if_icmp .gt 7, 0, 16), (12, 1, .iconst 1, 1, 0), (13, 3, .goto 4, 0, 17),
  (16, 1, .iconst 0, 0, 0), (17, 1, .ireturn, 0, 0)]
theorem kX5_isCutOff_ok : fw_chk cX5_isCutOff 1 kX5_isCutOff = true := by decide +kernel
theorem kX5_isCutOff_cst : ∀ en ∈ kX5_isCutOff, fw_CstOK RX5 cst_X5 en := by
  have h : kX5_isCutOff.all (fw_cstq cp_X5) = true := by decide +kernel
  exact fun en he => fw_cstX cp_X5_ok cst_X5_ok (List.all_eq_true.mp h en he)
def kX5_isTip : List fw_Ent := [
  (0, 1, .iload_n 0, 0, 0), (1, 3, .ifCond .lt 14, 0, 15), (4, 1, .iload_n 0, 0, 0), (5, 3, .sipush 1000, 1000, 0),
  (8, 3, .if_icmp .gt 7, 0, 15), (11, 1, .iconst 1, 1, 0), (12, 3, .goto 4, 0, 16), (15, 1, .iconst 0, 0, 0),
  (16, 1, .ireturn, 0, 0)]
theorem kX5_isTip_ok : fw_chk cX5_isTip 1 kX5_isTip = true := by decide +kernel
theorem kX5_isTip_cst : ∀ en ∈ kX5_isTip, fw_CstOK RX5 cst_X5 en := by
  have h : kX5_isTip.all (fw_cstq cp_X5) = true := by decide +kernel
  exact fun en he => fw_cstX cp_X5_ok cst_X5_ok (List.all_eq_true.mp h en he)
def kX5_isTicks : List fw_Ent := [
  (0, 1, .iload_n 0, 0, 0), (1, 3, .ifCond .lt 14, 0, 15), (4, 1, .iload_n 0, 0, 0), (5, 3, .sipush 200, 200, 0),
  (8, 3, .if_icmp .gt 7, 0, 15), (11, 1, .iconst 1, 1, 0), (12, 3, .goto 4, 0, 16), (15, 1, .iconst 0, 0, 0),
  (16, 1, .ireturn, 0, 0)]
theorem kX5_isTicks_ok : fw_chk cX5_isTicks 1 kX5_isTicks = true := by decide +kernel
theorem kX5_isTicks_cst : ∀ en ∈ kX5_isTicks, fw_CstOK RX5 cst_X5 en := by
  have h : kX5_isTicks.all (fw_cstq cp_X5) = true := by decide +kernel
  exact fun en he => fw_cstX cp_X5_ok cst_X5_ok (List.all_eq_true.mp h en he)
def kX5_holds : List fw_Ent := [
  (0, 1, .iload_n 0, 0, 0), (1, 1, .iload_n 1, 0, 0), (2, 1, .ishr, 0, 0), (3, 1, .iconst 1, 1, 0),
  (4, 1, .iand, 0, 0), (5, 1, .iconst 1, 1, 0), (6, 3, .if_icmp .ne 7, 0, 13), (9, 1, .iconst 1, 1, 0),
  (10, 3, .goto 4, 0, 14), (13, 1, .iconst 0, 0, 0), (14, 1, .ireturn, 0, 0)]
theorem kX5_holds_ok : fw_chk cX5_holds 2 kX5_holds = true := by decide +kernel
theorem kX5_holds_cst : ∀ en ∈ kX5_holds, fw_CstOK RX5 cst_X5 en := by
  have h : kX5_holds.all (fw_cstq cp_X5) = true := by decide +kernel
  exact fun en he => fw_cstX cp_X5_ok cst_X5_ok (List.all_eq_true.mp h en he)
def kX5_nextZone : List fw_Ent := [
  (0, 1, .iload_n 1, 0, 0), (1, 1, .iconst 4, 4, 0), (2, 1, .irem, 0, 0), (3, 1, .iload_n 0, 0, 0),
  (4, 1, .iconst 4, 4, 0), (5, 1, .irem, 0, 0), (6, 1, .isub, 0, 0), (7, 1, .istore_n 2, 0, 0),
  (8, 1, .iload_n 2, 0, 0), (9, 3, .ifCond .eq 17, 0, 26), (12, 1, .iload_n 2, 0, 0), (13, 3, .ifCond .le 9, 0, 22),
  (16, 1, .iload_n 0, 0, 0), (17, 1, .iconst 1, 1, 0), (18, 1, .iadd, 0, 0), (19, 3, .goto 6, 0, 25),
  (22, 1, .iload_n 0, 0, 0), (23, 1, .iconst 1, 1, 0), (24, 1, .isub, 0, 0), (25, 1, .ireturn, 0, 0),
  (26, 1, .iload_n 1, 0, 0), (27, 1, .iconst 4, 4, 0), (28, 1, .idiv, 0, 0), (29, 1, .iload_n 0, 0, 0),
  (30, 1, .iconst 4, 4, 0), (31, 1, .idiv, 0, 0), (32, 1, .isub, 0, 0), (33, 1, .istore_n 3, 0, 0),
  (34, 1, .iload_n 3, 0, 0), (35, 3, .ifCond .eq 17, 0, 52), (38, 1, .iload_n 3, 0, 0), (39, 3, .ifCond .le 9, 0, 48),
  (42, 1, .iload_n 0, 0, 0), (43, 1, .iconst 4, 4, 0), (44, 1, .iadd, 0, 0), (45, 3, .goto 6, 0, 51),
  (48, 1, .iload_n 0, 0, 0), (49, 1, .iconst 4, 4, 0), (50, 1, .isub, 0, 0), (51, 1, .ireturn, 0, 0),
  (52, 1, .iload_n 0, 0, 0), (53, 1, .ireturn, 0, 0)]
theorem kX5_nextZone_ok : fw_chk cX5_nextZone 4 kX5_nextZone = true := by decide +kernel
theorem kX5_nextZone_cst : ∀ en ∈ kX5_nextZone, fw_CstOK RX5 cst_X5 en := by
  have h : kX5_nextZone.all (fw_cstq cp_X5) = true := by decide +kernel
  exact fun en he => fw_cstX cp_X5_ok cst_X5_ok (List.all_eq_true.mp h en he)
def kX5_at : List fw_Ent := [
  (0, 1, .iload_n 1, 0, 0), (1, 3, .ifCond .lt 15, 0, 16), (4, 1, .iload_n 1, 0, 0), (5, 1, .aload_n 0, 0, 0),
  (6, 1, .arraylength, 0, 0), (7, 3, .if_icmp .ge 9, 0, 16), (10, 1, .aload_n 0, 0, 0), (11, 1, .iload_n 1, 0, 0),
  (12, 1, .iaload, 0, 0), (13, 3, .goto 4, 0, 17), (16, 1, .iconst 0, 0, 0), (17, 1, .ireturn, 0, 0)]
theorem kX5_at_ok : fw_chk cX5_at 2 kX5_at = true := by decide +kernel
theorem kX5_at_cst : ∀ en ∈ kX5_at, fw_CstOK RX5 cst_X5 en := by
  have h : kX5_at.all (fw_cstq cp_X5) = true := by decide +kernel
  exact fun en he => fw_cstX cp_X5_ok cst_X5_ok (List.all_eq_true.mp h en he)
def kX5_sum : List fw_Ent := [
  (0, 1, .iconst 0, 0, 0), (1, 1, .istore_n 1, 0, 0), (2, 1, .iconst 0, 0, 0), (3, 1, .istore_n 2, 0, 0),
  (4, 1, .iload_n 2, 0, 0), (5, 1, .aload_n 0, 0, 0), (6, 1, .arraylength, 0, 0), (7, 3, .if_icmp .ge 15, 0, 22),
  (10, 1, .iload_n 1, 0, 0), (11, 1, .aload_n 0, 0, 0), (12, 1, .iload_n 2, 0, 0), (13, 1, .iaload, 0, 0),
  (14, 1, .iadd, 0, 0), (15, 1, .istore_n 1, 0, 0), (16, 3, .iinc 2 1, 1, 0), (19, 3, .goto (-15), 0, 4),
  (22, 1, .iload_n 1, 0, 0), (23, 1, .ireturn, 0, 0)]
theorem kX5_sum_ok : fw_chk cX5_sum 3 kX5_sum = true := by decide +kernel
theorem kX5_sum_cst : ∀ en ∈ kX5_sum, fw_CstOK RX5 cst_X5 en := by
  have h : kX5_sum.all (fw_cstq cp_X5) = true := by decide +kernel
  exact fun en he => fw_cstX cp_X5_ok cst_X5_ok (List.all_eq_true.mp h en he)
def kX5_copyRow : List fw_Ent := [
  (0, 1, .aload_n 0, 0, 0), (1, 1, .iconst 0, 0, 0), (2, 1, .aload_n 1, 0, 0), (3, 1, .iconst 0, 0, 0),
  (4, 1, .aload_n 0, 0, 0), (5, 1, .arraylength, 0, 0), (6, 1, .aload_n 1, 0, 0), (7, 1, .arraylength, 0, 0),
  (8, 3, .invokestatic 208, 0, 0), (11, 3, .invokestatic 211, 0, 0), (14, 1, .return_, 0, 0)]
theorem kX5_copyRow_ok : fw_chk cX5_copyRow 2 kX5_copyRow = true := by decide +kernel
theorem kX5_copyRow_cst : ∀ en ∈ kX5_copyRow, fw_CstOK RX5 cst_X5 en := by
  have h : kX5_copyRow.all (fw_cstq cp_X5) = true := by decide +kernel
  exact fun en he => fw_cstX cp_X5_ok cst_X5_ok (List.all_eq_true.mp h en he)
def kX6_thrown : List fw_Ent := [
  (0, 1, .aload_n 0, 0, 0), (1, 3, .getfield 25, 0, 0), (4, 1, .ireturn, 0, 0)]
theorem kX6_thrown_ok : fw_chk cX6_thrown 1 kX6_thrown = true := by decide +kernel
theorem kX6_thrown_cst : ∀ en ∈ kX6_thrown, fw_CstOK RX6 cst_X6 en := by
  have h : kX6_thrown.all (fw_cstq cp_X6) = true := by decide +kernel
  exact fun en he => fw_cstX cp_X6_ok cst_X6_ok (List.all_eq_true.mp h en he)
def kX6_in : List fw_Ent := [
  (0, 1, .iload_n 0, 0, 0), (1, 1, .iload_n 1, 0, 0), (2, 3, .if_icmp .lt 12, 0, 14), (5, 1, .iload_n 0, 0, 0),
  (6, 1, .iload_n 2, 0, 0), (7, 3, .if_icmp .gt 7, 0, 14), (10, 1, .iconst 1, 1, 0), (11, 3, .goto 4, 0, 15),
  (14, 1, .iconst 0, 0, 0), (15, 1, .ireturn, 0, 0)]
theorem kX6_in_ok : fw_chk cX6_in 3 kX6_in = true := by decide +kernel
theorem kX6_in_cst : ∀ en ∈ kX6_in, fw_CstOK RX6 cst_X6 en := by
  have h : kX6_in.all (fw_cstq cp_X6) = true := by decide +kernel
  exact fun en he => fw_cstX cp_X6_ok cst_X6_ok (List.all_eq_true.mp h en he)
def kX6_fails : List fw_Ent := [
  (0, 1, .aload_n 0, 0, 0), (1, 1, .iload_n 1, 0, 0), (2, 3, .putfield 25, 0, 0), (5, 1, .iconst 0, 0, 0),
  (6, 1, .ireturn, 0, 0)]
theorem kX6_fails_ok : fw_chk cX6_fails 2 kX6_fails = true := by decide +kernel
theorem kX6_fails_cst : ∀ en ∈ kX6_fails, fw_CstOK RX6 cst_X6 en := by
  have h : kX6_fails.all (fw_cstq cp_X6) = true := by decide +kernel
  exact fun en he => fw_cstX cp_X6_ok cst_X6_ok (List.all_eq_true.mp h en he)
def kX6_tells : List fw_Ent := [
  (0, 1, .aload_n 0, 0, 0), (1, 1, .iconst 0, 0, 0), (2, 3, .putfield 25, 0, 0), (5, 1, .iload_n 1, 0, 0),
  (6, 1, .ireturn, 0, 0)]
theorem kX6_tells_ok : fw_chk cX6_tells 2 kX6_tells = true := by decide +kernel
theorem kX6_tells_cst : ∀ en ∈ kX6_tells, fw_CstOK RX6 cst_X6 en := by
  have h : kX6_tells.all (fw_cstq cp_X6) = true := by decide +kernel
  exact fun en he => fw_cstX cp_X6_ok cst_X6_ok (List.all_eq_true.mp h en he)
def kX6_copies : List fw_Ent := [
  (0, 1, .iconst 0, 0, 0), (1, 1, .istore_n 2, 0, 0), (2, 1, .iload_n 2, 0, 0), (3, 3, .sipush 517, 517, 0),
  (6, 3, .if_icmp .ge 15, 0, 21), (9, 1, .aload_n 0, 0, 0), (10, 1, .iload_n 2, 0, 0), (11, 1, .aload_n 1, 0, 0),
  (12, 1, .iload_n 2, 0, 0), (13, 1, .iaload, 0, 0), (14, 1, .iastore, 0, 0), (15, 3, .iinc 2 1, 1, 0),
  (18, 3, .goto (-16), 0, 2), (21, 1, .return_, 0, 0)]
theorem kX6_copies_ok : fw_chk cX6_copies 3 kX6_copies = true := by decide +kernel
theorem kX6_copies_cst : ∀ en ∈ kX6_copies, fw_CstOK RX6 cst_X6 en := by
  have h : kX6_copies.all (fw_cstq cp_X6) = true := by decide +kernel
  exact fun en he => fw_cstX cp_X6_ok cst_X6_ok (List.all_eq_true.mp h en he)
def kX6_hold : List fw_Ent := [
  (0, 1, .aload_n 0, 0, 0), (1, 3, .getfield 16, 0, 0), (4, 1, .aload_n 0, 0, 0), (5, 3, .getfield 7, 0, 0),
  (8, 3, .invokestatic 29, 0, 0), (11, 1, .return_, 0, 0)]
theorem kX6_hold_ok : fw_chk cX6_hold 1 kX6_hold = true := by decide +kernel
theorem kX6_hold_cst : ∀ en ∈ kX6_hold, fw_CstOK RX6 cst_X6 en := by
  have h : kX6_hold.all (fw_cstq cp_X6) = true := by decide +kernel
  exact fun en he => fw_cstX cp_X6_ok cst_X6_ok (List.all_eq_true.mp h en he)
def kX6_ends : List fw_Ent := [
  (0, 1, .aload_n 0, 0, 0), (1, 3, .getfield 33, 0, 0), (4, 1, .iconst 4, 4, 0), (5, 3, .if_icmp .ne 44, 0, 49),
  (8, 1, .iconst 0, 0, 0), (9, 1, .istore_n 2, 0, 0), (10, 1, .iload_n 2, 0, 0), (11, 3, .sipush 1551, 1551, 0),
  (14, 3, .if_icmp .ge 25, 0, 39), (17, 1, .aload_n 0, 0, 0), (18, 3, .getfield 13, 0, 0), (21, 1, .iload_n 2, 0, 0),
  (22, 1, .aload_n 0, 0, 0), (23, 3, .getfield 13, 0, 0), (26, 1, .iload_n 2, 0, 0), (27, 3, .sipush 517, 517, 0),
  (30, 1, .iadd, 0, 0), (31, 1, .iaload, 0, 0), (32, 1, .iastore, 0, 0), (33, 3, .iinc 2 1, 1, 0),
  (36, 3, .goto (-26), 0, 10), (39, 1, .aload_n 0, 0, 0), (40, 1, .dup, 0, 0), (41, 3, .getfield 33, 0, 0),
  (44, 1, .iconst 1, 1, 0), (45, 1, .isub, 0, 0), (46, 3, .putfield 33, 0, 0), (49, 1, .iconst 0, 0, 0),
  (50, 1, .istore_n 2, 0, 0), (51, 1, .iload_n 2, 0, 0), (52, 3, .sipush 517, 517, 0), (55, 3, .if_icmp .ge 30, 0, 85),
  (58, 1, .aload_n 0, 0, 0), (59, 3, .getfield 13, 0, 0), (62, 3, .sipush 517, 517, 0), (65, 1, .aload_n 0, 0, 0),
  (66, 3, .getfield 33, 0, 0), (69, 1, .imul, 0, 0), (70, 1, .iload_n 2, 0, 0), (71, 1, .iadd, 0, 0),
  (72, 1, .aload_n 0, 0, 0), (73, 3, .getfield 16, 0, 0), (76, 1, .iload_n 2, 0, 0), (77, 1, .iaload, 0, 0),
  (78, 1, .iastore, 0, 0), (79, 3, .iinc 2 1, 1, 0), (82, 3, .goto (-31), 0, 51), (85, 1, .aload_n 0, 0, 0),
  (86, 1, .dup, 0, 0), (87, 3, .getfield 33, 0, 0), (90, 1, .iconst 1, 1, 0), (91, 1, .iadd, 0, 0),
  (92, 3, .putfield 33, 0, 0), (95, 1, .aload_n 0, 0, 0), (96, 1, .iload_n 1, 0, 0), (97, 3, .invokevirtual 36, 0, 0),
  (100, 1, .ireturn, 0, 0)]
theorem kX6_ends_ok : fw_chk cX6_ends 3 kX6_ends = true := by decide +kernel
theorem kX6_ends_cst : ∀ en ∈ kX6_ends, fw_CstOK RX6 cst_X6 en := by
  have h : kX6_ends.all (fw_cstq cp_X6) = true := by decide +kernel
  exact fun en he => fw_cstX cp_X6_ok cst_X6_ok (List.all_eq_true.mp h en he)
def kX6_isCourier : List fw_Ent := [
  (0, 1, .iload_n 1, 0, 0), (1, 1, .iconst 0, 0, 0), (2, 1, .aload_n 0, 0, 0), (3, 3, .getfield 7, 0, 0),
  (6, 1, .iconst 2, 2, 0), (7, 1, .iaload, 0, 0), (8, 1, .iconst 1, 1, 0), (9, 1, .isub, 0, 0),
  (10, 3, .invokestatic 40, 0, 0), (13, 1, .ireturn, 0, 0)]
theorem kX6_isCourier_ok : fw_chk cX6_isCourier 2 kX6_isCourier = true := by decide +kernel
theorem kX6_isCourier_cst : ∀ en ∈ kX6_isCourier, fw_CstOK RX6 cst_X6 en := by
  have h : kX6_isCourier.all (fw_cstq cp_X6) = true := by decide +kernel
  exact fun en he => fw_cstX cp_X6_ok cst_X6_ok (List.all_eq_true.mp h en he)
def kX6_isParcel : List fw_Ent := [
  (0, 1, .iload_n 1, 0, 0), (1, 1, .iconst 0, 0, 0), (2, 1, .aload_n 0, 0, 0), (3, 3, .getfield 7, 0, 0),
  (6, 1, .iconst 3, 3, 0), (7, 1, .iaload, 0, 0), (8, 1, .iconst 1, 1, 0), (9, 1, .isub, 0, 0),
  (10, 3, .invokestatic 40, 0, 0), (13, 1, .ireturn, 0, 0)]
theorem kX6_isParcel_ok : fw_chk cX6_isParcel 2 kX6_isParcel = true := by decide +kernel
theorem kX6_isParcel_cst : ∀ en ∈ kX6_isParcel, fw_CstOK RX6 cst_X6 en := by
  have h : kX6_isParcel.all (fw_cstq cp_X6) = true := by decide +kernel
  exact fun en he => fw_cstX cp_X6_ok cst_X6_ok (List.all_eq_true.mp h en he)
def kX6_isZone : List fw_Ent := [
  (0, 1, .iload_n 0, 0, 0), (1, 1, .iconst 0, 0, 0), (2, 2, .bipush 15, 15, 0), (4, 3, .invokestatic 40, 0, 0),
  (7, 1, .ireturn, 0, 0)]
theorem kX6_isZone_ok : fw_chk cX6_isZone 1 kX6_isZone = true := by decide +kernel
theorem kX6_isZone_cst : ∀ en ∈ kX6_isZone, fw_CstOK RX6 cst_X6 en := by
  have h : kX6_isZone.all (fw_cstq cp_X6) = true := by decide +kernel
  exact fun en he => fw_cstX cp_X6_ok cst_X6_ok (List.all_eq_true.mp h en he)
def kX6_of : List fw_Ent := [
  (0, 1, .aload_n 0, 0, 0), (1, 3, .getfield 7, 0, 0), (4, 2, .bipush 7, 7, 0), (6, 1, .iconst 5, 5, 0),
  (7, 1, .iload_n 1, 0, 0), (8, 1, .imul, 0, 0), (9, 1, .iadd, 0, 0), (10, 1, .iload_n 2, 0, 0),
  (11, 1, .iadd, 0, 0), (12, 1, .iaload, 0, 0), (13, 1, .ireturn, 0, 0)]
theorem kX6_of_ok : fw_chk cX6_of 3 kX6_of = true := by decide +kernel
theorem kX6_of_cst : ∀ en ∈ kX6_of, fw_CstOK RX6 cst_X6 en := by
  have h : kX6_of.all (fw_cstq cp_X6) = true := by decide +kernel
  exact fun en he => fw_cstX cp_X6_ok cst_X6_ok (List.all_eq_true.mp h en he)
def kX6_sets : List fw_Ent := [
  (0, 1, .aload_n 0, 0, 0), (1, 3, .getfield 7, 0, 0), (4, 2, .bipush 7, 7, 0), (6, 1, .iconst 5, 5, 0),
  (7, 1, .iload_n 1, 0, 0), (8, 1, .imul, 0, 0), (9, 1, .iadd, 0, 0), (10, 1, .iload_n 2, 0, 0),
  (11, 1, .iadd, 0, 0), (12, 1, .iload_n 3, 0, 0), (13, 1, .iastore, 0, 0), (14, 1, .return_, 0, 0)]
theorem kX6_sets_ok : fw_chk cX6_sets 4 kX6_sets = true := by decide +kernel
theorem kX6_sets_cst : ∀ en ∈ kX6_sets, fw_CstOK RX6 cst_X6 en := by
  have h : kX6_sets.all (fw_cstq cp_X6) = true := by decide +kernel
  exact fun en he => fw_cstX cp_X6_ok cst_X6_ok (List.all_eq_true.mp h en he)
def kX6_its : List fw_Ent := [
  (0, 1, .aload_n 0, 0, 0), (1, 3, .getfield 7, 0, 0), (4, 2, .bipush 37, 37, 0), (6, 2, .bipush 20, 20, 0),
  (8, 1, .iload_n 1, 0, 0), (9, 1, .imul, 0, 0), (10, 1, .iadd, 0, 0), (11, 1, .iload_n 2, 0, 0),
  (12, 1, .iadd, 0, 0), (13, 1, .iaload, 0, 0), (14, 1, .ireturn, 0, 0)]
theorem kX6_its_ok : fw_chk cX6_its 3 kX6_its = true := by decide +kernel
theorem kX6_its_cst : ∀ en ∈ kX6_its, fw_CstOK RX6 cst_X6 en := by
  have h : kX6_its.all (fw_cstq cp_X6) = true := by decide +kernel
  exact fun en he => fw_cstX cp_X6_ok cst_X6_ok (List.all_eq_true.mp h en he)
def kX6_puts : List fw_Ent := [
  (0, 1, .aload_n 0, 0, 0), (1, 3, .getfield 7, 0, 0), (4, 2, .bipush 37, 37, 0), (6, 2, .bipush 20, 20, 0),
  (8, 1, .iload_n 1, 0, 0), (9, 1, .imul, 0, 0), (10, 1, .iadd, 0, 0), (11, 1, .iload_n 2, 0, 0),
  (12, 1, .iadd, 0, 0), (13, 1, .iload_n 3, 0, 0), (14, 1, .iastore, 0, 0), (15, 1, .return_, 0, 0)]
theorem kX6_puts_ok : fw_chk cX6_puts 4 kX6_puts = true := by decide +kernel
theorem kX6_puts_cst : ∀ en ∈ kX6_puts, fw_CstOK RX6 cst_X6 en := by
  have h : kX6_puts.all (fw_cstq cp_X6) = true := by decide +kernel
  exact fun en he => fw_cstX cp_X6_ok cst_X6_ok (List.all_eq_true.mp h en he)
def kX6_isIn : List fw_Ent := [
  (0, 1, .aload_n 0, 0, 0), (1, 1, .iload_n 1, 0, 0), (2, 1, .iconst 0, 0, 0), (3, 3, .invokevirtual 44, 0, 0),
  (6, 1, .iload_n 2, 0, 0), (7, 1, .ishr, 0, 0), (8, 1, .iconst 1, 1, 0), (9, 1, .iand, 0, 0),
  (10, 1, .iconst 1, 1, 0), (11, 3, .if_icmp .ne 7, 0, 18), (14, 1, .iconst 1, 1, 0), (15, 3, .goto 4, 0, 19),
  (18, 1, .iconst 0, 0, 0), (19, 1, .ireturn, 0, 0)]
theorem kX6_isIn_ok : fw_chk cX6_isIn 3 kX6_isIn = true := by decide +kernel
theorem kX6_isIn_cst : ∀ en ∈ kX6_isIn, fw_CstOK RX6 cst_X6 en := by
  have h : kX6_isIn.all (fw_cstq cp_X6) = true := by decide +kernel
  exact fun en he => fw_cstX cp_X6_ok cst_X6_ok (List.all_eq_true.mp h en he)
def kX6_next : List fw_Ent := [
  (0, 1, .iload_n 0, 0, 0), (1, 1, .iconst 4, 4, 0), (2, 1, .irem, 0, 0), (3, 1, .iload_n 1, 0, 0),
  (4, 1, .iconst 4, 4, 0), (5, 1, .irem, 0, 0), (6, 3, .if_icmp .eq 22, 0, 28), (9, 1, .iload_n 0, 0, 0),
  (10, 1, .iconst 4, 4, 0), (11, 1, .irem, 0, 0), (12, 1, .iload_n 1, 0, 0), (13, 1, .iconst 4, 4, 0),
  (14, 1, .irem, 0, 0), (15, 3, .if_icmp .ge 9, 0, 24), (18, 1, .iload_n 0, 0, 0), (19, 1, .iconst 1, 1, 0),
  (20, 1, .iadd, 0, 0), (21, 3, .goto 6, 0, 27), (24, 1, .iload_n 0, 0, 0), (25, 1, .iconst 1, 1, 0),
  (26, 1, .isub, 0, 0), (27, 1, .ireturn, 0, 0), (28, 1, .iload_n 0, 0, 0), (29, 1, .iload_n 1, 0, 0),
  (30, 3, .if_icmp .ge 9, 0, 39), (33, 1, .iload_n 0, 0, 0), (34, 1, .iconst 4, 4, 0), (35, 1, .iadd, 0, 0),
  (36, 3, .goto 15, 0, 51), (39, 1, .iload_n 0, 0, 0), (40, 1, .iload_n 1, 0, 0), (41, 3, .if_icmp .le 9, 0, 50),
  (44, 1, .iload_n 0, 0, 0), (45, 1, .iconst 4, 4, 0), (46, 1, .isub, 0, 0), (47, 3, .goto 4, 0, 51),
  (50, 1, .iload_n 0, 0, 0), (51, 1, .ireturn, 0, 0)]
theorem kX6_next_ok : fw_chk cX6_next 2 kX6_next = true := by decide +kernel
theorem kX6_next_cst : ∀ en ∈ kX6_next, fw_CstOK RX6 cst_X6 en := by
  have h : kX6_next.all (fw_cstq cp_X6) = true := by decide +kernel
  exact fun en he => fw_cstX cp_X6_ok cst_X6_ok (List.all_eq_true.mp h en he)
def kX6_frees : List fw_Ent := [
  (0, 1, .aload_n 0, 0, 0), (1, 1, .iload_n 1, 0, 0), (2, 1, .iconst 3, 3, 0), (3, 1, .iconst 0, 0, 0),
  (4, 3, .invokevirtual 48, 0, 0), (7, 1, .aload_n 0, 0, 0), (8, 1, .iload_n 1, 0, 0), (9, 1, .iconst 4, 4, 0),
  (10, 1, .iconst (-1), (-1), 0), (11, 3, .invokevirtual 48, 0, 0), (14, 1, .return_, 0, 0)]
theorem kX6_frees_ok : fw_chk cX6_frees 2 kX6_frees = true := by decide +kernel
theorem kX6_frees_cst : ∀ en ∈ kX6_frees, fw_CstOK RX6 cst_X6 en := by
  have h : kX6_frees.all (fw_cstq cp_X6) = true := by decide +kernel
  exact fun en he => fw_cstX cp_X6_ok cst_X6_ok (List.all_eq_true.mp h en he)
def kX6_suits : List fw_Ent := [
  (0, 1, .aload_n 0, 0, 0), (1, 1, .iload_n 2, 0, 0), (2, 1, .aload_n 0, 0, 0), (3, 1, .iload_n 1, 0, 0),
  (4, 1, .iconst 5, 5, 0), (5, 3, .invokevirtual 52, 0, 0), (8, 3, .invokevirtual 55, 0, 0), (11, 3, .ifCond .eq 30, 0, 41),
  (14, 1, .aload_n 0, 0, 0), (15, 1, .iload_n 2, 0, 0), (16, 1, .aload_n 0, 0, 0), (17, 1, .iload_n 1, 0, 0),
  (18, 1, .iconst 5, 5, 0), (19, 3, .invokevirtual 52, 0, 0), (22, 1, .aload_n 0, 0, 0), (23, 1, .iload_n 1, 0, 0),
  (24, 1, .iconst 1, 1, 0), (25, 3, .invokevirtual 52, 0, 0), (28, 3, .invokestatic 59, 0, 0), (31, 3, .invokevirtual 55, 0, 0),
  (34, 3, .ifCond .eq 7, 0, 41), (37, 1, .iconst 1, 1, 0), (38, 3, .goto 4, 0, 42), (41, 1, .iconst 0, 0, 0),
  (42, 1, .ireturn, 0, 0)]
theorem kX6_suits_ok : fw_chk cX6_suits 3 kX6_suits = true := by decide +kernel
theorem kX6_suits_cst : ∀ en ∈ kX6_suits, fw_CstOK RX6 cst_X6 en := by
  have h : kX6_suits.all (fw_cstq cp_X6) = true := by decide +kernel
  exact fun en he => fw_cstX cp_X6_ok cst_X6_ok (List.all_eq_true.mp h en he)
def kX6_legsOf : List fw_Ent := [
  (0, 1, .iconst 0, 0, 0), (1, 1, .istore_n 2, 0, 0), (2, 1, .iconst 0, 0, 0), (3, 1, .istore_n 3, 0, 0),
  (4, 1, .iload_n 3, 0, 0), (5, 2, .bipush 6, 6, 0), (7, 3, .if_icmp .ge 21, 0, 28), (10, 1, .iload_n 2, 0, 0),
  (11, 1, .aload_n 0, 0, 0), (12, 1, .iload_n 1, 0, 0), (13, 2, .bipush 8, 8, 0), (15, 1, .iload_n 3, 0, 0),
  (16, 1, .iadd, 0, 0), (17, 3, .invokevirtual 52, 0, 0), (20, 1, .iadd, 0, 0), (21, 1, .istore_n 2, 0, 0),
  (22, 3, .iinc 3 1, 1, 0), (25, 3, .goto (-21), 0, 4), (28, 1, .iload_n 2, 0, 0), (29, 1, .ireturn, 0, 0)]
theorem kX6_legsOf_ok : fw_chk cX6_legsOf 4 kX6_legsOf = true := by decide +kernel
theorem kX6_legsOf_cst : ∀ en ∈ kX6_legsOf, fw_CstOK RX6 cst_X6 en := by
  have h : kX6_legsOf.all (fw_cstq cp_X6) = true := by decide +kernel
  exact fun en he => fw_cstX cp_X6_ok cst_X6_ok (List.all_eq_true.mp h en he)
def kX6_shares : List fw_Ent := [
  (0, 1, .aload_n 0, 0, 0), (1, 1, .iload_n 1, 0, 0), (2, 3, .invokevirtual 62, 0, 0), (5, 1, .istore_n 3, 0, 0),
  (6, 1, .iload_n 2, 0, 0), (7, 2, .istore 4, 0, 0), (9, 1, .iconst 0, 0, 0), (10, 2, .istore 5, 0, 0),
  (12, 2, .iload 5, 0, 0), (14, 2, .bipush 6, 6, 0), (16, 3, .if_icmp .ge 44, 0, 60), (19, 1, .iload_n 2, 0, 0),
  (20, 1, .aload_n 0, 0, 0), (21, 1, .iload_n 1, 0, 0), (22, 2, .bipush 8, 8, 0), (24, 2, .iload 5, 0, 0),
  (26, 1, .iadd, 0, 0), (27, 3, .invokevirtual 52, 0, 0), (30, 1, .imul, 0, 0), (31, 1, .iload_n 3, 0, 0),
  (32, 1, .idiv, 0, 0), (33, 2, .istore 6, 0, 0), (35, 1, .aload_n 0, 0, 0), (36, 1, .iload_n 1, 0, 0),
  (37, 2, .bipush 14, 14, 0), (39, 2, .iload 5, 0, 0), (41, 1, .iadd, 0, 0), (42, 2, .iload 6, 0, 0),
  (44, 3, .invokevirtual 65, 0, 0), (47, 2, .iload 4, 0, 0), (49, 2, .iload 6, 0, 0), (51, 1, .isub, 0, 0),
  (52, 2, .istore 4, 0, 0), (54, 3, .iinc 5 1, 1, 0), (57, 3, .goto (-45), 0, 12), (60, 1, .iconst 0, 0, 0),
  (61, 2, .istore 5, 0, 0), (63, 2, .iload 4, 0, 0), (65, 3, .ifCond .le 103, 0, 168), (68, 1, .iconst (-1), (-1), 0),
  (69, 2, .istore 6, 0, 0), (71, 1, .iconst 0, 0, 0), (72, 2, .istore 7, 0, 0), (74, 1, .iconst 0, 0, 0),
  (75, 2, .istore 8, 0, 0), (77, 2, .iload 8, 0, 0), (79, 2, .bipush 6, 6, 0), (81, 3, .if_icmp .ge 50, 0, 131),
  (84, 1, .iload_n 2, 0, 0), (85, 1, .aload_n 0, 0, 0), (86, 1, .iload_n 1, 0, 0), (87, 2, .bipush 8, 8, 0),
  (89, 2, .iload 8, 0, 0), (91, 1, .iadd, 0, 0), (92, 3, .invokevirtual 52, 0, 0), (95, 1, .imul, 0, 0),
  (96, 1, .iload_n 3, 0, 0), (97, 1, .irem, 0, 0), (98, 2, .istore 9, 0, 0), (100, 2, .iload 5, 0, 0),
  (102, 2, .iload 8, 0, 0), (104, 1, .ishr, 0, 0), (105, 1, .iconst 1, 1, 0), (106, 1, .iand, 0, 0),
  (107, 3, .ifCond .ne 18, 0, 125), (110, 2, .iload 9, 0, 0), (112, 2, .iload 7, 0, 0), (114, 3, .if_icmp .le 11, 0, 125),
  (117, 2, .iload 8, 0, 0), (119, 2, .istore 6, 0, 0), (121, 2, .iload 9, 0, 0), (123, 2, .istore 7, 0, 0),
  (125, 3, .iinc 8 1, 1, 0), (128, 3, .goto (-51), 0, 77), (131, 2, .iload 5, 0, 0), (133, 1, .iconst 1, 1, 0),
  (134, 2, .iload 6, 0, 0), (136, 1, .ishl, 0, 0), (137, 1, .ior, 0, 0), (138, 2, .istore 5, 0, 0),
  (140, 1, .aload_n 0, 0, 0), (141, 1, .iload_n 1, 0, 0), (142, 2, .bipush 14, 14, 0), (144, 2, .iload 6, 0, 0),
  (146, 1, .iadd, 0, 0), (147, 1, .aload_n 0, 0, 0), (148, 1, .iload_n 1, 0, 0), (149, 2, .bipush 14, 14, 0),
  (151, 2, .iload 6, 0, 0), (153, 1, .iadd, 0, 0), (154, 3, .invokevirtual 52, 0, 0), (157, 1, .iconst 1, 1, 0),
  (158, 1, .iadd, 0, 0), (159, 3, .invokevirtual 65, 0, 0), (162, 3, .iinc 4 (-1), (-1), 0), (165, 3, .goto (-102), 0, 63),
  (168, 1, .iconst 0, 0, 0), (169, 2, .istore 6, 0, 0), (171, 2, .iload 6, 0, 0), (173, 1, .aload_n 0, 0, 0),
  (174, 3, .getfield 7, 0, 0), (177, 1, .iconst 2, 2, 0), (178, 1, .iaload, 0, 0), (179, 3, .if_icmp .ge 34, 0, 213),
  (182, 1, .aload_n 0, 0, 0), (183, 2, .iload 6, 0, 0), (185, 1, .iconst 2, 2, 0), (186, 1, .aload_n 0, 0, 0),
  (187, 2, .iload 6, 0, 0), (189, 1, .iconst 2, 2, 0), (190, 3, .invokevirtual 44, 0, 0), (193, 1, .aload_n 0, 0, 0),
  (194, 1, .iload_n 1, 0, 0), (195, 2, .bipush 14, 14, 0), (197, 2, .iload 6, 0, 0), (199, 1, .iadd, 0, 0),
  (200, 3, .invokevirtual 52, 0, 0), (203, 1, .iadd, 0, 0), (204, 3, .invokevirtual 48, 0, 0), (207, 3, .iinc 6 1, 1, 0),
  (210, 3, .goto (-39), 0, 171), (213, 1, .return_, 0, 0)]
theorem kX6_shares_ok : fw_chk cX6_shares 10 kX6_shares = true := by decide +kernel
theorem kX6_shares_cst : ∀ en ∈ kX6_shares, fw_CstOK RX6 cst_X6 en := by
  have h : kX6_shares.all (fw_cstq cp_X6) = true := by decide +kernel
  exact fun en he => fw_cstX cp_X6_ok cst_X6_ok (List.all_eq_true.mp h en he)
def kX6_delivers : List fw_Ent := [
  (0, 1, .aload_n 0, 0, 0), (1, 3, .getfield 7, 0, 0), (4, 1, .iconst 0, 0, 0), (5, 1, .iaload, 0, 0),
  (6, 1, .aload_n 0, 0, 0), (7, 1, .iload_n 2, 0, 0), (8, 1, .iconst 2, 2, 0), (9, 3, .invokevirtual 52, 0, 0),
  (12, 3, .if_icmp .gt 12, 0, 24), (15, 1, .aload_n 0, 0, 0), (16, 1, .iload_n 2, 0, 0), (17, 1, .iconst 3, 3, 0),
  (18, 3, .invokevirtual 52, 0, 0), (21, 3, .goto 11, 0, 32), (24, 1, .aload_n 0, 0, 0), (25, 1, .iload_n 2, 0, 0),
  (26, 1, .iconst 3, 3, 0), (27, 3, .invokevirtual 52, 0, 0), (30, 1, .iconst 2, 2, 0), (31, 1, .idiv, 0, 0),
  (32, 1, .istore_n 3, 0, 0), (33, 1, .aload_n 0, 0, 0), (34, 1, .iload_n 2, 0, 0), (35, 1, .iconst 4, 4, 0),
  (36, 1, .iconst 2, 2, 0), (37, 3, .invokevirtual 65, 0, 0), (40, 1, .aload_n 0, 0, 0), (41, 1, .iload_n 2, 0, 0),
  (42, 2, .bipush 6, 6, 0), (44, 1, .aload_n 0, 0, 0), (45, 3, .getfield 7, 0, 0), (48, 1, .iconst 0, 0, 0),
  (49, 1, .iaload, 0, 0), (50, 3, .invokevirtual 65, 0, 0), (53, 1, .aload_n 0, 0, 0), (54, 1, .iload_n 2, 0, 0),
  (55, 2, .bipush 7, 7, 0), (57, 1, .iload_n 3, 0, 0), (58, 3, .invokevirtual 65, 0, 0), (61, 1, .aload_n 0, 0, 0),
  (62, 3, .getfield 7, 0, 0), (65, 2, .bipush 6, 6, 0), (67, 1, .dup2, 0, 0), (68, 1, .iaload, 0, 0),
  (69, 1, .iload_n 3, 0, 0), (70, 1, .iadd, 0, 0), (71, 1, .iastore, 0, 0), (72, 1, .aload_n 0, 0, 0),
  (73, 1, .iload_n 2, 0, 0), (74, 1, .iload_n 3, 0, 0), (75, 3, .invokevirtual 68, 0, 0), (78, 1, .aload_n 0, 0, 0),
  (79, 1, .iload_n 1, 0, 0), (80, 3, .invokevirtual 72, 0, 0), (83, 1, .return_, 0, 0)]
theorem kX6_delivers_ok : fw_chk cX6_delivers 4 kX6_delivers = true := by decide +kernel
theorem kX6_delivers_cst : ∀ en ∈ kX6_delivers, fw_CstOK RX6 cst_X6 en := by
  have h : kX6_delivers.all (fw_cstq cp_X6) = true := by decide +kernel
  exact fun en he => fw_cstX cp_X6_ok cst_X6_ok (List.all_eq_true.mp h en he)
def kX6_carries : List fw_Ent := [
  (0, 1, .aload_n 0, 0, 0), (1, 1, .iload_n 1, 0, 0), (2, 1, .iconst 1, 1, 0), (3, 3, .invokevirtual 44, 0, 0),
  (6, 1, .aload_n 0, 0, 0), (7, 1, .iload_n 2, 0, 0), (8, 1, .iconst 1, 1, 0), (9, 3, .invokevirtual 52, 0, 0),
  (12, 3, .invokestatic 59, 0, 0), (15, 1, .istore_n 3, 0, 0), (16, 1, .aload_n 0, 0, 0), (17, 1, .iload_n 1, 0, 0),
  (18, 1, .iload_n 3, 0, 0), (19, 3, .invokevirtual 55, 0, 0), (22, 3, .ifCond .ne 26, 0, 48), (25, 1, .aload_n 0, 0, 0),
  (26, 1, .iload_n 2, 0, 0), (27, 1, .iconst 4, 4, 0), (28, 1, .iconst 0, 0, 0), (29, 3, .invokevirtual 65, 0, 0),
  (32, 1, .aload_n 0, 0, 0), (33, 3, .getfield 7, 0, 0), (36, 1, .iconst 4, 4, 0), (37, 1, .dup2, 0, 0),
  (38, 1, .iaload, 0, 0), (39, 1, .iconst 1, 1, 0), (40, 1, .iadd, 0, 0), (41, 1, .iastore, 0, 0),
  (42, 1, .aload_n 0, 0, 0), (43, 1, .iload_n 1, 0, 0), (44, 3, .invokevirtual 72, 0, 0), (47, 1, .return_, 0, 0),
  (48, 1, .aload_n 0, 0, 0), (49, 1, .iload_n 1, 0, 0), (50, 1, .iconst 1, 1, 0), (51, 1, .iload_n 3, 0, 0),
  (52, 3, .invokevirtual 48, 0, 0), (55, 1, .aload_n 0, 0, 0), (56, 3, .getfield 7, 0, 0), (59, 1, .iconst 5, 5, 0),
  (60, 1, .dup2, 0, 0), (61, 1, .iaload, 0, 0), (62, 1, .iconst 1, 1, 0), (63, 1, .iadd, 0, 0),
  (64, 1, .iastore, 0, 0), (65, 1, .aload_n 0, 0, 0), (66, 1, .iload_n 2, 0, 0), (67, 1, .iconst 5, 5, 0),
  (68, 1, .iload_n 3, 0, 0), (69, 3, .invokevirtual 65, 0, 0), (72, 1, .aload_n 0, 0, 0), (73, 1, .iload_n 2, 0, 0),
  (74, 2, .bipush 8, 8, 0), (76, 1, .iload_n 1, 0, 0), (77, 1, .iadd, 0, 0), (78, 1, .aload_n 0, 0, 0),
  (79, 1, .iload_n 2, 0, 0), (80, 2, .bipush 8, 8, 0), (82, 1, .iload_n 1, 0, 0), (83, 1, .iadd, 0, 0),
  (84, 3, .invokevirtual 52, 0, 0), (87, 1, .iconst 1, 1, 0), (88, 1, .iadd, 0, 0), (89, 3, .invokevirtual 65, 0, 0),
  (92, 1, .iload_n 3, 0, 0), (93, 1, .aload_n 0, 0, 0), (94, 1, .iload_n 2, 0, 0), (95, 1, .iconst 1, 1, 0),
  (96, 3, .invokevirtual 52, 0, 0), (99, 3, .if_icmp .ne 9, 0, 108), (102, 1, .aload_n 0, 0, 0), (103, 1, .iload_n 1, 0, 0),
  (104, 1, .iload_n 2, 0, 0), (105, 3, .invokevirtual 76, 0, 0), (108, 1, .return_, 0, 0)]
theorem kX6_carries_ok : fw_chk cX6_carries 4 kX6_carries = true := by decide +kernel
theorem kX6_carries_cst : ∀ en ∈ kX6_carries, fw_CstOK RX6 cst_X6 en := by
  have h : kX6_carries.all (fw_cstq cp_X6) = true := by decide +kernel
  exact fun en he => fw_cstX cp_X6_ok cst_X6_ok (List.all_eq_true.mp h en he)
def kX6_goes : List fw_Ent := [
  (0, 1, .aload_n 0, 0, 0), (1, 1, .iload_n 1, 0, 0), (2, 1, .iconst 1, 1, 0), (3, 3, .invokevirtual 44, 0, 0),
  (6, 1, .aload_n 0, 0, 0), (7, 1, .iload_n 2, 0, 0), (8, 1, .iconst 5, 5, 0), (9, 3, .invokevirtual 52, 0, 0),
  (12, 3, .if_icmp .ne 18, 0, 30), (15, 1, .aload_n 0, 0, 0), (16, 1, .iload_n 1, 0, 0), (17, 1, .iconst 3, 3, 0),
  (18, 1, .iconst 2, 2, 0), (19, 3, .invokevirtual 48, 0, 0), (22, 1, .aload_n 0, 0, 0), (23, 1, .iload_n 2, 0, 0),
  (24, 1, .iconst 4, 4, 0), (25, 1, .iconst 1, 1, 0), (26, 3, .invokevirtual 65, 0, 0), (29, 1, .return_, 0, 0),
  (30, 1, .aload_n 0, 0, 0), (31, 1, .iload_n 1, 0, 0), (32, 1, .iconst 1, 1, 0), (33, 1, .aload_n 0, 0, 0),
  (34, 1, .iload_n 1, 0, 0), (35, 1, .iconst 1, 1, 0), (36, 3, .invokevirtual 44, 0, 0), (39, 1, .aload_n 0, 0, 0),
  (40, 1, .iload_n 2, 0, 0), (41, 1, .iconst 5, 5, 0), (42, 3, .invokevirtual 52, 0, 0), (45, 3, .invokestatic 59, 0, 0),
  (48, 3, .invokevirtual 48, 0, 0), (51, 1, .aload_n 0, 0, 0), (52, 3, .getfield 7, 0, 0), (55, 1, .iconst 5, 5, 0),
  (56, 1, .dup2, 0, 0), (57, 1, .iaload, 0, 0), (58, 1, .iconst 1, 1, 0), (59, 1, .iadd, 0, 0),
  (60, 1, .iastore, 0, 0), (61, 1, .return_, 0, 0)]
theorem kX6_goes_ok : fw_chk cX6_goes 3 kX6_goes = true := by decide +kernel
theorem kX6_goes_cst : ∀ en ∈ kX6_goes, fw_CstOK RX6 cst_X6 en := by
  have h : kX6_goes.all (fw_cstq cp_X6) = true := by decide +kernel
  exact fun en he => fw_cstX cp_X6_ok cst_X6_ok (List.all_eq_true.mp h en he)
def kX6_isAsked : List fw_Ent := [
  (0, 1, .iconst 0, 0, 0), (1, 1, .istore_n 3, 0, 0), (2, 1, .iconst 0, 0, 0), (3, 2, .istore 4, 0, 0),
  (5, 2, .iload 4, 0, 0), (7, 1, .aload_n 0, 0, 0), (8, 3, .getfield 7, 0, 0), (11, 1, .iconst 2, 2, 0),
  (12, 1, .iaload, 0, 0), (13, 3, .if_icmp .ge 47, 0, 60), (16, 1, .iload_n 3, 0, 0), (17, 3, .ifCond .ne 31, 0, 48),
  (20, 2, .iload 4, 0, 0), (22, 1, .iload_n 2, 0, 0), (23, 3, .if_icmp .eq 29, 0, 52), (26, 1, .aload_n 0, 0, 0),
  (27, 2, .iload 4, 0, 0), (29, 1, .iconst 3, 3, 0), (30, 3, .invokevirtual 44, 0, 0), (33, 1, .iconst 1, 1, 0),
  (34, 3, .if_icmp .ne 18, 0, 52), (37, 1, .aload_n 0, 0, 0), (38, 2, .iload 4, 0, 0), (40, 1, .iconst 4, 4, 0),
  (41, 3, .invokevirtual 44, 0, 0), (44, 1, .iload_n 1, 0, 0), (45, 3, .if_icmp .ne 7, 0, 52), (48, 1, .iconst 1, 1, 0),
  (49, 3, .goto 4, 0, 53), (52, 1, .iconst 0, 0, 0), (53, 1, .istore_n 3, 0, 0), (54, 3, .iinc 4 1, 1, 0),
  (57, 3, .goto (-52), 0, 5), (60, 1, .iload_n 3, 0, 0), (61, 1, .ireturn, 0, 0)]
theorem kX6_isAsked_ok : fw_chk cX6_isAsked 5 kX6_isAsked = true := by decide +kernel
theorem kX6_isAsked_cst : ∀ en ∈ kX6_isAsked, fw_CstOK RX6 cst_X6 en := by
  have h : kX6_isAsked.all (fw_cstq cp_X6) = true := by decide +kernel
  exact fun en he => fw_cstX cp_X6_ok cst_X6_ok (List.all_eq_true.mp h en he)
def kX6_chooses : List fw_Ent := [
  (0, 1, .iconst (-1), (-1), 0), (1, 1, .istore_n 2, 0, 0), (2, 1, .iconst 0, 0, 0), (3, 1, .istore_n 3, 0, 0),
  (4, 1, .iload_n 3, 0, 0), (5, 1, .aload_n 0, 0, 0), (6, 3, .getfield 7, 0, 0), (9, 1, .iconst 3, 3, 0),
  (10, 1, .iaload, 0, 0), (11, 3, .if_icmp .ge 74, 0, 85), (14, 1, .aload_n 0, 0, 0), (15, 1, .iload_n 3, 0, 0),
  (16, 1, .iconst 4, 4, 0), (17, 3, .invokevirtual 52, 0, 0), (20, 3, .ifCond .ne 25, 0, 45), (23, 1, .aload_n 0, 0, 0),
  (24, 1, .iload_n 3, 0, 0), (25, 1, .iload_n 1, 0, 0), (26, 3, .invokevirtual 79, 0, 0), (29, 3, .ifCond .eq 16, 0, 45),
  (32, 1, .aload_n 0, 0, 0), (33, 1, .iload_n 3, 0, 0), (34, 1, .iload_n 1, 0, 0), (35, 3, .invokevirtual 82, 0, 0),
  (38, 3, .ifCond .ne 7, 0, 45), (41, 1, .iconst 1, 1, 0), (42, 3, .goto 4, 0, 46), (45, 1, .iconst 0, 0, 0),
  (46, 2, .istore 4, 0, 0), (48, 2, .iload 4, 0, 0), (50, 3, .ifCond .eq 27, 0, 77), (53, 1, .iload_n 2, 0, 0),
  (54, 1, .iconst (-1), (-1), 0), (55, 3, .if_icmp .eq 18, 0, 73), (58, 1, .aload_n 0, 0, 0), (59, 1, .iload_n 3, 0, 0),
  (60, 1, .iconst 2, 2, 0), (61, 3, .invokevirtual 52, 0, 0), (64, 1, .aload_n 0, 0, 0), (65, 1, .iload_n 2, 0, 0),
  (66, 1, .iconst 2, 2, 0), (67, 3, .invokevirtual 52, 0, 0), (70, 3, .if_icmp .ge 7, 0, 77), (73, 1, .iload_n 3, 0, 0),
  (74, 3, .goto 4, 0, 78), (77, 1, .iload_n 2, 0, 0), (78, 1, .istore_n 2, 0, 0), (79, 3, .iinc 3 1, 1, 0),
  (82, 3, .goto (-78), 0, 4), (85, 1, .aload_n 0, 0, 0), (86, 1, .iload_n 1, 0, 0), (87, 1, .iconst 3, 3, 0),
  (88, 1, .iload_n 2, 0, 0), (89, 1, .iconst (-1), (-1), 0), (90, 3, .if_icmp .ne 7, 0, 97), (93, 1, .iconst 0, 0, 0),
  (94, 3, .goto 4, 0, 98), (97, 1, .iconst 1, 1, 0), (98, 3, .invokevirtual 48, 0, 0), (101, 1, .aload_n 0, 0, 0),
  (102, 1, .iload_n 1, 0, 0), (103, 1, .iconst 4, 4, 0), (104, 1, .iload_n 2, 0, 0), (105, 3, .invokevirtual 48, 0, 0),
  (108, 1, .return_, 0, 0)]
theorem kX6_chooses_ok : fw_chk cX6_chooses 5 kX6_chooses = true := by decide +kernel
theorem kX6_chooses_cst : ∀ en ∈ kX6_chooses, fw_CstOK RX6 cst_X6 en := by
  have h : kX6_chooses.all (fw_cstq cp_X6) = true := by decide +kernel
  exact fun en he => fw_cstX cp_X6_ok cst_X6_ok (List.all_eq_true.mp h en he)
def kX6_failsOf : List fw_Ent := [
  (0, 1, .aload_n 0, 0, 0), (1, 1, .iload_n 1, 0, 0), (2, 1, .iconst 4, 4, 0), (3, 1, .iconst 3, 3, 0),
  (4, 3, .invokevirtual 65, 0, 0), (7, 1, .iconst 0, 0, 0), (8, 1, .istore_n 2, 0, 0), (9, 1, .iload_n 2, 0, 0),
  (10, 1, .aload_n 0, 0, 0), (11, 3, .getfield 7, 0, 0), (14, 1, .iconst 2, 2, 0), (15, 1, .iaload, 0, 0),
  (16, 3, .if_icmp .ge 24, 0, 40), (19, 1, .aload_n 0, 0, 0), (20, 1, .iload_n 2, 0, 0), (21, 1, .iconst 4, 4, 0),
  (22, 3, .invokevirtual 44, 0, 0), (25, 1, .iload_n 1, 0, 0), (26, 3, .if_icmp .ne 8, 0, 34), (29, 1, .aload_n 0, 0, 0),
  (30, 1, .iload_n 2, 0, 0), (31, 3, .invokevirtual 72, 0, 0), (34, 3, .iinc 2 1, 1, 0), (37, 3, .goto (-28), 0, 9),
  (40, 1, .return_, 0, 0)]
theorem kX6_failsOf_ok : fw_chk cX6_failsOf 3 kX6_failsOf = true := by decide +kernel
theorem kX6_failsOf_cst : ∀ en ∈ kX6_failsOf, fw_CstOK RX6 cst_X6 en := by
  have h : kX6_failsOf.all (fw_cstq cp_X6) = true := by decide +kernel
  exact fun en he => fw_cstX cp_X6_ok cst_X6_ok (List.all_eq_true.mp h en he)
def kX6_tick : List fw_Ent := [
  (0, 1, .aload_n 0, 0, 0), (1, 3, .getfield 7, 0, 0), (4, 1, .iconst 0, 0, 0), (5, 1, .dup2, 0, 0),
  (6, 1, .iaload, 0, 0), (7, 1, .iconst 1, 1, 0), (8, 1, .iadd, 0, 0), (9, 1, .iastore, 0, 0),
  (10, 1, .iconst 0, 0, 0), (11, 1, .istore_n 1, 0, 0), (12, 1, .iload_n 1, 0, 0), (13, 1, .aload_n 0, 0, 0),
  (14, 3, .getfield 7, 0, 0), (17, 1, .iconst 2, 2, 0), (18, 1, .iaload, 0, 0), (19, 3, .if_icmp .ge 68, 0, 87),
  (22, 1, .aload_n 0, 0, 0), (23, 1, .iload_n 1, 0, 0), (24, 1, .iconst 4, 4, 0), (25, 3, .invokevirtual 44, 0, 0),
  (28, 1, .istore_n 2, 0, 0), (29, 1, .aload_n 0, 0, 0), (30, 1, .iload_n 1, 0, 0), (31, 1, .iconst 3, 3, 0),
  (32, 3, .invokevirtual 44, 0, 0), (35, 1, .iconst 2, 2, 0), (36, 3, .if_icmp .ne 12, 0, 48), (39, 1, .aload_n 0, 0, 0),
  (40, 1, .iload_n 1, 0, 0), (41, 1, .iload_n 2, 0, 0), (42, 3, .invokevirtual 85, 0, 0), (45, 3, .goto 36, 0, 81),
  (48, 1, .aload_n 0, 0, 0), (49, 1, .iload_n 1, 0, 0), (50, 1, .iconst 3, 3, 0), (51, 3, .invokevirtual 44, 0, 0),
  (54, 1, .iconst 1, 1, 0), (55, 3, .if_icmp .ne 21, 0, 76), (58, 1, .aload_n 0, 0, 0), (59, 1, .iload_n 2, 0, 0),
  (60, 1, .iconst 4, 4, 0), (61, 3, .invokevirtual 52, 0, 0), (64, 3, .ifCond .ne 12, 0, 76), (67, 1, .aload_n 0, 0, 0),
  (68, 1, .iload_n 1, 0, 0), (69, 1, .iload_n 2, 0, 0), (70, 3, .invokevirtual 88, 0, 0), (73, 3, .goto 8, 0, 81),
  (76, 1, .aload_n 0, 0, 0), (77, 1, .iload_n 1, 0, 0), (78, 3, .invokevirtual 91, 0, 0), (81, 3, .iinc 1 1, 1, 0),
  (84, 3, .goto (-72), 0, 12), (87, 1, .iconst 0, 0, 0), (88, 1, .istore_n 1, 0, 0), (89, 1, .iload_n 1, 0, 0),
  (90, 1, .aload_n 0, 0, 0), (91, 3, .getfield 7, 0, 0), (94, 1, .iconst 3, 3, 0), (95, 1, .iaload, 0, 0),
  (96, 3, .if_icmp .ge 46, 0, 142), (99, 1, .aload_n 0, 0, 0), (100, 1, .iload_n 1, 0, 0), (101, 1, .iconst 4, 4, 0),
  (102, 3, .invokevirtual 52, 0, 0), (105, 1, .iconst 2, 2, 0), (106, 3, .if_icmp .ge 30, 0, 136), (109, 1, .aload_n 0, 0, 0),
  (110, 1, .iload_n 1, 0, 0), (111, 1, .iconst 2, 2, 0), (112, 3, .invokevirtual 52, 0, 0), (115, 1, .aload_n 0, 0, 0),
  (116, 3, .getfield 7, 0, 0), (119, 1, .iconst 1, 1, 0), (120, 1, .iaload, 0, 0), (121, 1, .iadd, 0, 0),
  (122, 1, .aload_n 0, 0, 0), (123, 3, .getfield 7, 0, 0), (126, 1, .iconst 0, 0, 0), (127, 1, .iaload, 0, 0),
  (128, 3, .if_icmp .ge 8, 0, 136), (131, 1, .aload_n 0, 0, 0), (132, 1, .iload_n 1, 0, 0), (133, 3, .invokevirtual 94, 0, 0),
  (136, 3, .iinc 1 1, 1, 0), (139, 3, .goto (-50), 0, 89), (142, 1, .return_, 0, 0)]
theorem kX6_tick_ok : fw_chk cX6_tick 3 kX6_tick = true := by decide +kernel
theorem kX6_tick_cst : ∀ en ∈ kX6_tick, fw_CstOK RX6 cst_X6 en := by
  have h : kX6_tick.all (fw_cstq cp_X6) = true := by decide +kernel
  exact fun en he => fw_cstX cp_X6_ok cst_X6_ok (List.all_eq_true.mp h en he)
def kX6_inState : List fw_Ent := [
  (0, 1, .iconst 0, 0, 0), (1, 1, .istore_n 2, 0, 0), (2, 1, .iconst 0, 0, 0), (3, 1, .istore_n 3, 0, 0),
  (4, 1, .iload_n 3, 0, 0), (5, 1, .aload_n 0, 0, 0), (6, 3, .getfield 7, 0, 0), (9, 1, .iconst 3, 3, 0),
  (10, 1, .iaload, 0, 0), (11, 3, .if_icmp .ge 27, 0, 38), (14, 1, .iload_n 2, 0, 0), (15, 1, .aload_n 0, 0, 0),
  (16, 1, .iload_n 3, 0, 0), (17, 1, .iconst 4, 4, 0), (18, 3, .invokevirtual 52, 0, 0), (21, 1, .iload_n 1, 0, 0),
  (22, 3, .if_icmp .ne 7, 0, 29), (25, 1, .iconst 1, 1, 0), (26, 3, .goto 4, 0, 30), (29, 1, .iconst 0, 0, 0),
  (30, 1, .iadd, 0, 0), (31, 1, .istore_n 2, 0, 0), (32, 3, .iinc 3 1, 1, 0), (35, 3, .goto (-31), 0, 4),
  (38, 1, .iload_n 2, 0, 0), (39, 1, .ireturn, 0, 0)]
theorem kX6_inState_ok : fw_chk cX6_inState 4 kX6_inState = true := by decide +kernel
theorem kX6_inState_cst : ∀ en ∈ kX6_inState, fw_CstOK RX6 cst_X6 en := by
  have h : kX6_inState.all (fw_cstq cp_X6) = true := by decide +kernel
  exact fun en he => fw_cstX cp_X6_ok cst_X6_ok (List.all_eq_true.mp h en he)
def kX6_ticks : List fw_Ent := [
  (0, 1, .iconst 0, 0, 0), (1, 1, .istore_n 2, 0, 0), (2, 1, .iload_n 2, 0, 0), (3, 1, .iload_n 1, 0, 0),
  (4, 3, .if_icmp .ge 13, 0, 17), (7, 1, .aload_n 0, 0, 0), (8, 3, .invokevirtual 97, 0, 0), (11, 3, .iinc 2 1, 1, 0),
  (14, 3, .goto (-12), 0, 2), (17, 1, .return_, 0, 0)]
theorem kX6_ticks_ok : fw_chk cX6_ticks 3 kX6_ticks = true := by decide +kernel
theorem kX6_ticks_cst : ∀ en ∈ kX6_ticks, fw_CstOK RX6 cst_X6 en := by
  have h : kX6_ticks.all (fw_cstq cp_X6) = true := by decide +kernel
  exact fun en he => fw_cstX cp_X6_ok cst_X6_ok (List.all_eq_true.mp h en he)
def kX6_isArea : List fw_Ent := [
  (0, 1, .iload_n 0, 0, 0), (1, 1, .iconst 0, 0, 0), (2, 2, .ldc 100, 65535, 0), (4, 3, .invokestatic 40, 0, 0),
  (7, 1, .ireturn, 0, 0)]
theorem kX6_isArea_ok : fw_chk cX6_isArea 1 kX6_isArea = true := by decide +kernel
theorem kX6_isArea_cst : ∀ en ∈ kX6_isArea, fw_CstOK RX6 cst_X6 en := by
  have h : kX6_isArea.all (fw_cstq cp_X6) = true := by decide +kernel
  exact fun en he => fw_cstX cp_X6_ok cst_X6_ok (List.all_eq_true.mp h en he)
def kX6_addCourier : List fw_Ent := [
  (0, 1, .iload_n 1, 0, 0), (1, 3, .invokestatic 101, 0, 0), (4, 3, .ifCond .eq 10, 0, 14), (7, 1, .iload_n 2, 0, 0),
  (8, 3, .invokestatic 105, 0, 0), (11, 3, .ifCond .ne 9, 0, 20), (14, 1, .aload_n 0, 0, 0), (15, 1, .iconst 1, 1, 0),
  (16, 3, .invokevirtual 108, 0, 0), (19, 1, .ireturn, 0, 0), (20, 1, .aload_n 0, 0, 0), (21, 3, .getfield 7, 0, 0),
  (24, 1, .iconst 2, 2, 0), (25, 1, .iaload, 0, 0), (26, 2, .bipush 6, 6, 0), (28, 3, .if_icmp .ne 9, 0, 37),
  (31, 1, .aload_n 0, 0, 0), (32, 1, .iconst 2, 2, 0), (33, 3, .invokevirtual 108, 0, 0), (36, 1, .ireturn, 0, 0),
  (37, 1, .aload_n 0, 0, 0), (38, 3, .invokevirtual 111, 0, 0), (41, 1, .aload_n 0, 0, 0), (42, 3, .getfield 7, 0, 0),
  (45, 1, .iconst 2, 2, 0), (46, 1, .iaload, 0, 0), (47, 1, .istore_n 3, 0, 0), (48, 1, .aload_n 0, 0, 0),
  (49, 1, .iload_n 3, 0, 0), (50, 1, .iconst 0, 0, 0), (51, 1, .iload_n 1, 0, 0), (52, 3, .invokevirtual 48, 0, 0),
  (55, 1, .aload_n 0, 0, 0), (56, 1, .iload_n 3, 0, 0), (57, 1, .iconst 1, 1, 0), (58, 1, .iload_n 2, 0, 0),
  (59, 3, .invokevirtual 48, 0, 0), (62, 1, .aload_n 0, 0, 0), (63, 1, .iload_n 3, 0, 0), (64, 1, .iconst 2, 2, 0),
  (65, 1, .iconst 0, 0, 0), (66, 3, .invokevirtual 48, 0, 0), (69, 1, .aload_n 0, 0, 0), (70, 1, .iload_n 3, 0, 0),
  (71, 3, .invokevirtual 72, 0, 0), (74, 1, .aload_n 0, 0, 0), (75, 3, .getfield 7, 0, 0), (78, 1, .iconst 2, 2, 0),
  (79, 1, .dup2, 0, 0), (80, 1, .iaload, 0, 0), (81, 1, .iconst 1, 1, 0), (82, 1, .iadd, 0, 0),
  (83, 1, .iastore, 0, 0), (84, 1, .aload_n 0, 0, 0), (85, 1, .iload_n 3, 0, 0), (86, 3, .invokevirtual 114, 0, 0),
  (89, 1, .ireturn, 0, 0)]
theorem kX6_addCourier_ok : fw_chk cX6_addCourier 4 kX6_addCourier = true := by decide +kernel
theorem kX6_addCourier_cst : ∀ en ∈ kX6_addCourier, fw_CstOK RX6 cst_X6 en := by
  have h : kX6_addCourier.all (fw_cstq cp_X6) = true := by decide +kernel
  exact fun en he => fw_cstX cp_X6_ok cst_X6_ok (List.all_eq_true.mp h en he)
def kX6_setArea : List fw_Ent := [
  (0, 1, .aload_n 0, 0, 0), (1, 1, .iload_n 1, 0, 0), (2, 3, .invokevirtual 117, 0, 0), (5, 3, .ifCond .ne 9, 0, 14),
  (8, 1, .aload_n 0, 0, 0), (9, 1, .iconst 1, 1, 0), (10, 3, .invokevirtual 108, 0, 0), (13, 1, .ireturn, 0, 0),
  (14, 1, .iload_n 2, 0, 0), (15, 3, .invokestatic 101, 0, 0), (18, 3, .ifCond .ne 9, 0, 27), (21, 1, .aload_n 0, 0, 0),
  (22, 1, .iconst 2, 2, 0), (23, 3, .invokevirtual 108, 0, 0), (26, 1, .ireturn, 0, 0), (27, 1, .aload_n 0, 0, 0),
  (28, 3, .invokevirtual 111, 0, 0), (31, 1, .aload_n 0, 0, 0), (32, 1, .iload_n 1, 0, 0), (33, 1, .iconst 0, 0, 0),
  (34, 3, .invokevirtual 44, 0, 0), (37, 1, .istore_n 3, 0, 0), (38, 1, .aload_n 0, 0, 0), (39, 1, .iload_n 1, 0, 0),
  (40, 1, .iconst 0, 0, 0), (41, 1, .iload_n 2, 0, 0), (42, 3, .invokevirtual 48, 0, 0), (45, 1, .aload_n 0, 0, 0),
  (46, 1, .iload_n 3, 0, 0), (47, 3, .invokevirtual 114, 0, 0), (50, 1, .ireturn, 0, 0)]
theorem kX6_setArea_ok : fw_chk cX6_setArea 4 kX6_setArea = true := by decide +kernel
theorem kX6_setArea_cst : ∀ en ∈ kX6_setArea, fw_CstOK RX6 cst_X6 en := by
  have h : kX6_setArea.all (fw_cstq cp_X6) = true := by decide +kernel
  exact fun en he => fw_cstX cp_X6_ok cst_X6_ok (List.all_eq_true.mp h en he)
def kX6_comes : List fw_Ent := [
  (0, 1, .aload_n 0, 0, 0), (1, 3, .getfield 7, 0, 0), (4, 1, .iconst 3, 3, 0), (5, 1, .iaload, 0, 0),
  (6, 2, .istore 5, 0, 0), (8, 1, .iconst 0, 0, 0), (9, 2, .istore 6, 0, 0), (11, 2, .iload 6, 0, 0),
  (13, 2, .bipush 20, 20, 0), (15, 3, .if_icmp .ge 18, 0, 33), (18, 1, .aload_n 0, 0, 0), (19, 2, .iload 5, 0, 0),
  (21, 2, .iload 6, 0, 0), (23, 1, .iconst 0, 0, 0), (24, 3, .invokevirtual 65, 0, 0), (27, 3, .iinc 6 1, 1, 0),
  (30, 3, .goto (-19), 0, 11), (33, 1, .aload_n 0, 0, 0), (34, 2, .iload 5, 0, 0), (36, 1, .iconst 0, 0, 0),
  (37, 1, .iload_n 1, 0, 0), (38, 3, .invokevirtual 65, 0, 0), (41, 1, .aload_n 0, 0, 0), (42, 2, .iload 5, 0, 0),
  (44, 1, .iconst 1, 1, 0), (45, 1, .iload_n 2, 0, 0), (46, 3, .invokevirtual 65, 0, 0), (49, 1, .aload_n 0, 0, 0),
  (50, 2, .iload 5, 0, 0), (52, 1, .iconst 2, 2, 0), (53, 1, .iload_n 3, 0, 0), (54, 3, .invokevirtual 65, 0, 0),
  (57, 1, .aload_n 0, 0, 0), (58, 2, .iload 5, 0, 0), (60, 1, .iconst 3, 3, 0), (61, 2, .iload 4, 0, 0),
  (63, 3, .invokevirtual 65, 0, 0), (66, 1, .aload_n 0, 0, 0), (67, 2, .iload 5, 0, 0), (69, 1, .iconst 5, 5, 0),
  (70, 1, .iload_n 1, 0, 0), (71, 3, .invokevirtual 65, 0, 0), (74, 1, .aload_n 0, 0, 0), (75, 2, .iload 5, 0, 0),
  (77, 2, .bipush 6, 6, 0), (79, 1, .iconst (-1), (-1), 0), (80, 3, .invokevirtual 65, 0, 0), (83, 1, .aload_n 0, 0, 0),
  (84, 3, .getfield 7, 0, 0), (87, 1, .iconst 3, 3, 0), (88, 1, .dup2, 0, 0), (89, 1, .iaload, 0, 0),
  (90, 1, .iconst 1, 1, 0), (91, 1, .iadd, 0, 0), (92, 1, .iastore, 0, 0), (93, 1, .return_, 0, 0)]
theorem kX6_comes_ok : fw_chk cX6_comes 7 kX6_comes = true := by decide +kernel
theorem kX6_comes_cst : ∀ en ∈ kX6_comes, fw_CstOK RX6 cst_X6 en := by
  have h : kX6_comes.all (fw_cstq cp_X6) = true := by decide +kernel
  exact fun en he => fw_cstX cp_X6_ok cst_X6_ok (List.all_eq_true.mp h en he)
def kX6_give : List fw_Ent := [
  (0, 1, .iload_n 1, 0, 0), (1, 3, .invokestatic 105, 0, 0), (4, 3, .ifCond .eq 38, 0, 42), (7, 1, .iload_n 2, 0, 0),
  (8, 3, .invokestatic 105, 0, 0), (11, 3, .ifCond .eq 31, 0, 42), (14, 1, .iload_n 3, 0, 0), (15, 1, .iconst 1, 1, 0),
  (16, 3, .sipush 999, 999, 0), (19, 3, .invokestatic 40, 0, 0), (22, 3, .ifCond .eq 20, 0, 42), (25, 2, .iload 4, 0, 0),
  (27, 1, .iconst 0, 0, 0), (28, 3, .sipush 1000, 1000, 0), (31, 3, .invokestatic 40, 0, 0), (34, 3, .ifCond .eq 8, 0, 42),
  (37, 1, .iload_n 1, 0, 0), (38, 1, .iload_n 2, 0, 0), (39, 3, .if_icmp .ne 9, 0, 48), (42, 1, .aload_n 0, 0, 0),
  (43, 1, .iconst 1, 1, 0), (44, 3, .invokevirtual 108, 0, 0), (47, 1, .ireturn, 0, 0), (48, 1, .aload_n 0, 0, 0),
  (49, 3, .getfield 7, 0, 0), (52, 1, .iconst 3, 3, 0), (53, 1, .iaload, 0, 0), (54, 2, .bipush 24, 24, 0),
  (56, 3, .if_icmp .ne 9, 0, 65), (59, 1, .aload_n 0, 0, 0), (60, 1, .iconst 2, 2, 0), (61, 3, .invokevirtual 108, 0, 0),
  (64, 1, .ireturn, 0, 0), (65, 1, .aload_n 0, 0, 0), (66, 3, .invokevirtual 111, 0, 0), (69, 1, .aload_n 0, 0, 0),
  (70, 1, .iload_n 1, 0, 0), (71, 1, .iload_n 2, 0, 0), (72, 1, .iload_n 3, 0, 0), (73, 2, .iload 4, 0, 0),
  (75, 3, .invokevirtual 120, 0, 0), (78, 1, .aload_n 0, 0, 0), (79, 1, .aload_n 0, 0, 0), (80, 3, .getfield 7, 0, 0),
  (83, 1, .iconst 3, 3, 0), (84, 1, .iaload, 0, 0), (85, 1, .iconst 1, 1, 0), (86, 1, .isub, 0, 0),
  (87, 3, .invokevirtual 114, 0, 0), (90, 1, .ireturn, 0, 0)]
theorem kX6_give_ok : fw_chk cX6_give 5 kX6_give = true := by decide +kernel
theorem kX6_give_cst : ∀ en ∈ kX6_give, fw_CstOK RX6 cst_X6 en := by
  have h : kX6_give.all (fw_cstq cp_X6) = true := by decide +kernel
  exact fun en he => fw_cstX cp_X6_ok cst_X6_ok (List.all_eq_true.mp h en he)
def kX6_setGrace : List fw_Ent := [
  (0, 1, .iload_n 1, 0, 0), (1, 1, .iconst 0, 0, 0), (2, 2, .bipush 100, 100, 0), (4, 3, .invokestatic 40, 0, 0),
  (7, 3, .ifCond .ne 9, 0, 16), (10, 1, .aload_n 0, 0, 0), (11, 1, .iconst 1, 1, 0), (12, 3, .invokevirtual 108, 0, 0),
  (15, 1, .ireturn, 0, 0), (16, 1, .aload_n 0, 0, 0), (17, 3, .invokevirtual 111, 0, 0), (20, 1, .aload_n 0, 0, 0),
  (21, 3, .getfield 7, 0, 0), (24, 1, .iconst 1, 1, 0), (25, 1, .iaload, 0, 0), (26, 1, .istore_n 2, 0, 0),
  (27, 1, .aload_n 0, 0, 0), (28, 3, .getfield 7, 0, 0), (31, 1, .iconst 1, 1, 0), (32, 1, .iload_n 1, 0, 0),
  (33, 1, .iastore, 0, 0), (34, 1, .aload_n 0, 0, 0), (35, 1, .iload_n 2, 0, 0), (36, 3, .invokevirtual 114, 0, 0),
  (39, 1, .ireturn, 0, 0)]
theorem kX6_setGrace_ok : fw_chk cX6_setGrace 3 kX6_setGrace = true := by decide +kernel
theorem kX6_setGrace_cst : ∀ en ∈ kX6_setGrace, fw_CstOK RX6 cst_X6 en := by
  have h : kX6_setGrace.all (fw_cstq cp_X6) = true := by decide +kernel
  exact fun en he => fw_cstX cp_X6_ok cst_X6_ok (List.all_eq_true.mp h en he)
def kX6_drops : List fw_Ent := [
  (0, 1, .aload_n 0, 0, 0), (1, 1, .iload_n 1, 0, 0), (2, 1, .iconst 4, 4, 0), (3, 3, .invokevirtual 44, 0, 0),
  (6, 1, .istore_n 2, 0, 0), (7, 1, .aload_n 0, 0, 0), (8, 1, .iload_n 1, 0, 0), (9, 1, .iconst 3, 3, 0),
  (10, 3, .invokevirtual 44, 0, 0), (13, 1, .iconst 2, 2, 0), (14, 3, .if_icmp .ne 10, 0, 24), (17, 1, .aload_n 0, 0, 0),
  (18, 1, .iload_n 2, 0, 0), (19, 1, .iconst 4, 4, 0), (20, 1, .iconst 0, 0, 0), (21, 3, .invokevirtual 65, 0, 0),
  (24, 1, .aload_n 0, 0, 0), (25, 1, .iload_n 1, 0, 0), (26, 3, .invokevirtual 72, 0, 0), (29, 1, .iload_n 2, 0, 0),
  (30, 1, .ireturn, 0, 0)]
theorem kX6_drops_ok : fw_chk cX6_drops 3 kX6_drops = true := by decide +kernel
theorem kX6_drops_cst : ∀ en ∈ kX6_drops, fw_CstOK RX6 cst_X6 en := by
  have h : kX6_drops.all (fw_cstq cp_X6) = true := by decide +kernel
  exact fun en he => fw_cstX cp_X6_ok cst_X6_ok (List.all_eq_true.mp h en he)
def kX6_drop : List fw_Ent := [
  (0, 1, .aload_n 0, 0, 0), (1, 1, .iload_n 1, 0, 0), (2, 3, .invokevirtual 117, 0, 0), (5, 3, .ifCond .ne 9, 0, 14),
  (8, 1, .aload_n 0, 0, 0), (9, 1, .iconst 1, 1, 0), (10, 3, .invokevirtual 108, 0, 0), (13, 1, .ireturn, 0, 0),
  (14, 1, .aload_n 0, 0, 0), (15, 3, .invokevirtual 111, 0, 0), (18, 1, .aload_n 0, 0, 0), (19, 1, .aload_n 0, 0, 0),
  (20, 1, .iload_n 1, 0, 0), (21, 3, .invokevirtual 124, 0, 0), (24, 3, .invokevirtual 114, 0, 0), (27, 1, .ireturn, 0, 0)]
theorem kX6_drop_ok : fw_chk cX6_drop 2 kX6_drop = true := by decide +kernel
theorem kX6_drop_cst : ∀ en ∈ kX6_drop, fw_CstOK RX6 cst_X6 en := by
  have h : kX6_drop.all (fw_cstq cp_X6) = true := by decide +kernel
  exact fun en he => fw_cstX cp_X6_ok cst_X6_ok (List.all_eq_true.mp h en he)
def kX6_run : List fw_Ent := [
  (0, 1, .iload_n 1, 0, 0), (1, 1, .iconst 0, 0, 0), (2, 3, .sipush 200, 200, 0), (5, 3, .invokestatic 40, 0, 0),
  (8, 3, .ifCond .ne 9, 0, 17), (11, 1, .aload_n 0, 0, 0), (12, 1, .iconst 1, 1, 0), (13, 3, .invokevirtual 108, 0, 0),
  (16, 1, .ireturn, 0, 0), (17, 1, .aload_n 0, 0, 0), (18, 3, .getfield 7, 0, 0), (21, 1, .iconst 0, 0, 0),
  (22, 1, .iaload, 0, 0), (23, 1, .iload_n 1, 0, 0), (24, 1, .iadd, 0, 0), (25, 3, .sipush 2000, 2000, 0),
  (28, 3, .if_icmp .le 9, 0, 37), (31, 1, .aload_n 0, 0, 0), (32, 1, .iconst 2, 2, 0), (33, 3, .invokevirtual 108, 0, 0),
  (36, 1, .ireturn, 0, 0), (37, 1, .aload_n 0, 0, 0), (38, 3, .invokevirtual 111, 0, 0), (41, 1, .aload_n 0, 0, 0),
  (42, 1, .iconst 2, 2, 0), (43, 3, .invokevirtual 127, 0, 0), (46, 1, .istore_n 2, 0, 0), (47, 1, .aload_n 0, 0, 0),
  (48, 1, .iload_n 1, 0, 0), (49, 3, .invokevirtual 130, 0, 0), (52, 1, .aload_n 0, 0, 0), (53, 1, .aload_n 0, 0, 0),
  (54, 1, .iconst 2, 2, 0), (55, 3, .invokevirtual 127, 0, 0), (58, 1, .iload_n 2, 0, 0), (59, 1, .isub, 0, 0),
  (60, 3, .invokevirtual 114, 0, 0), (63, 1, .ireturn, 0, 0)]
theorem kX6_run_ok : fw_chk cX6_run 3 kX6_run = true := by decide +kernel
theorem kX6_run_cst : ∀ en ∈ kX6_run, fw_CstOK RX6 cst_X6 en := by
  have h : kX6_run.all (fw_cstq cp_X6) = true := by decide +kernel
  exact fun en he => fw_cstX cp_X6_ok cst_X6_ok (List.all_eq_true.mp h en he)
def kX6_valueOf : List fw_Ent := [
  (0, 1, .iload_n 1, 0, 0), (1, 55, .tableswitch 106 0 9 #[55, 62, 69, 76, 83, 83, 83, 83, 91, 99], 0, 0), (56, 1, .aload_n 0, 0, 0), (57, 3, .getfield 7, 0, 0),
  (60, 1, .iconst 0, 0, 0), (61, 1, .iaload, 0, 0), (62, 1, .ireturn, 0, 0), (63, 1, .aload_n 0, 0, 0),
  (64, 3, .getfield 7, 0, 0), (67, 1, .iconst 2, 2, 0), (68, 1, .iaload, 0, 0), (69, 1, .ireturn, 0, 0),
  (70, 1, .aload_n 0, 0, 0), (71, 3, .getfield 7, 0, 0), (74, 1, .iconst 3, 3, 0), (75, 1, .iaload, 0, 0),
  (76, 1, .ireturn, 0, 0), (77, 1, .aload_n 0, 0, 0), (78, 3, .getfield 7, 0, 0), (81, 1, .iconst 1, 1, 0),
  (82, 1, .iaload, 0, 0), (83, 1, .ireturn, 0, 0), (84, 1, .aload_n 0, 0, 0), (85, 1, .iload_n 1, 0, 0),
  (86, 1, .iconst 4, 4, 0), (87, 1, .isub, 0, 0), (88, 3, .invokevirtual 127, 0, 0), (91, 1, .ireturn, 0, 0),
  (92, 1, .aload_n 0, 0, 0), (93, 3, .getfield 7, 0, 0), (96, 2, .bipush 6, 6, 0), (98, 1, .iaload, 0, 0),
  (99, 1, .ireturn, 0, 0), (100, 1, .aload_n 0, 0, 0), (101, 3, .getfield 7, 0, 0), (104, 1, .iconst 4, 4, 0),
  (105, 1, .iaload, 0, 0), (106, 1, .ireturn, 0, 0), (107, 1, .aload_n 0, 0, 0), (108, 3, .getfield 7, 0, 0),
  (111, 1, .iconst 5, 5, 0), (112, 1, .iaload, 0, 0), (113, 1, .ireturn, 0, 0)]
theorem kX6_valueOf_ok : fw_chk cX6_valueOf 2 kX6_valueOf = true := by decide +kernel
theorem kX6_valueOf_cst : ∀ en ∈ kX6_valueOf, fw_CstOK RX6 cst_X6 en := by
  have h : kX6_valueOf.all (fw_cstq cp_X6) = true := by decide +kernel
  exact fun en he => fw_cstX cp_X6_ok cst_X6_ok (List.all_eq_true.mp h en he)
def kX6_value : List fw_Ent := [
  (0, 1, .iload_n 1, 0, 0), (1, 1, .iconst 0, 0, 0), (2, 2, .bipush 10, 10, 0), (4, 3, .invokestatic 40, 0, 0),
  (7, 3, .ifCond .eq 15, 0, 22), (10, 1, .aload_n 0, 0, 0), (11, 1, .aload_n 0, 0, 0), (12, 1, .iload_n 1, 0, 0),
  (13, 3, .invokevirtual 133, 0, 0), (16, 3, .invokevirtual 36, 0, 0), (19, 3, .goto 8, 0, 27), (22, 1, .aload_n 0, 0, 0),
  (23, 1, .iconst 1, 1, 0), (24, 3, .invokevirtual 108, 0, 0), (27, 1, .ireturn, 0, 0)]
theorem kX6_value_ok : fw_chk cX6_value 2 kX6_value = true := by decide +kernel
theorem kX6_value_cst : ∀ en ∈ kX6_value, fw_CstOK RX6 cst_X6 en := by
  have h : kX6_value.all (fw_cstq cp_X6) = true := by decide +kernel
  exact fun en he => fw_cstX cp_X6_ok cst_X6_ok (List.all_eq_true.mp h en he)
def kX6_courierOf : List fw_Ent := [
  (0, 1, .iload_n 2, 0, 0), (1, 1, .iconst 5, 5, 0), (2, 3, .if_icmp .ge 10, 0, 12), (5, 1, .aload_n 0, 0, 0),
  (6, 1, .iload_n 1, 0, 0), (7, 1, .iload_n 2, 0, 0), (8, 3, .invokevirtual 44, 0, 0), (11, 1, .ireturn, 0, 0),
  (12, 1, .iconst 0, 0, 0), (13, 1, .istore_n 3, 0, 0), (14, 1, .iconst 0, 0, 0), (15, 2, .istore 4, 0, 0),
  (17, 2, .iload 4, 0, 0), (19, 1, .aload_n 0, 0, 0), (20, 3, .getfield 7, 0, 0), (23, 1, .iconst 3, 3, 0),
  (24, 1, .iaload, 0, 0), (25, 3, .if_icmp .ge 22, 0, 47), (28, 1, .iload_n 3, 0, 0), (29, 1, .aload_n 0, 0, 0),
  (30, 2, .iload 4, 0, 0), (32, 2, .bipush 8, 8, 0), (34, 1, .iload_n 1, 0, 0), (35, 1, .iadd, 0, 0),
  (36, 3, .invokevirtual 52, 0, 0), (39, 1, .iadd, 0, 0), (40, 1, .istore_n 3, 0, 0), (41, 3, .iinc 4 1, 1, 0),
  (44, 3, .goto (-27), 0, 17), (47, 1, .iload_n 3, 0, 0), (48, 1, .ireturn, 0, 0)]
theorem kX6_courierOf_ok : fw_chk cX6_courierOf 5 kX6_courierOf = true := by decide +kernel
theorem kX6_courierOf_cst : ∀ en ∈ kX6_courierOf, fw_CstOK RX6 cst_X6 en := by
  have h : kX6_courierOf.all (fw_cstq cp_X6) = true := by decide +kernel
  exact fun en he => fw_cstX cp_X6_ok cst_X6_ok (List.all_eq_true.mp h en he)
def kX6_courier : List fw_Ent := [
  (0, 1, .aload_n 0, 0, 0), (1, 1, .iload_n 1, 0, 0), (2, 3, .invokevirtual 117, 0, 0), (5, 3, .ifCond .ne 9, 0, 14),
  (8, 1, .aload_n 0, 0, 0), (9, 1, .iconst 1, 1, 0), (10, 3, .invokevirtual 108, 0, 0), (13, 1, .ireturn, 0, 0),
  (14, 1, .iload_n 2, 0, 0), (15, 1, .iconst 0, 0, 0), (16, 1, .iconst 5, 5, 0), (17, 3, .invokestatic 40, 0, 0),
  (20, 3, .ifCond .eq 16, 0, 36), (23, 1, .aload_n 0, 0, 0), (24, 1, .aload_n 0, 0, 0), (25, 1, .iload_n 1, 0, 0),
  (26, 1, .iload_n 2, 0, 0), (27, 3, .invokevirtual 136, 0, 0), (30, 3, .invokevirtual 36, 0, 0), (33, 3, .goto 8, 0, 41),
  (36, 1, .aload_n 0, 0, 0), (37, 1, .iconst 2, 2, 0), (38, 3, .invokevirtual 108, 0, 0), (41, 1, .ireturn, 0, 0)]
theorem kX6_courier_ok : fw_chk cX6_courier 3 kX6_courier = true := by decide +kernel
theorem kX6_courier_cst : ∀ en ∈ kX6_courier, fw_CstOK RX6 cst_X6 en := by
  have h : kX6_courier.all (fw_cstq cp_X6) = true := by decide +kernel
  exact fun en he => fw_cstX cp_X6_ok cst_X6_ok (List.all_eq_true.mp h en he)
def kX6_parcelOf : List fw_Ent := [
  (0, 1, .iload_n 2, 0, 0), (1, 2, .bipush 8, 8, 0), (3, 3, .if_icmp .ge 12, 0, 15), (6, 1, .aload_n 0, 0, 0),
  (7, 1, .iload_n 1, 0, 0), (8, 1, .iload_n 2, 0, 0), (9, 3, .invokevirtual 52, 0, 0), (12, 3, .goto 8, 0, 20),
  (15, 1, .aload_n 0, 0, 0), (16, 1, .iload_n 1, 0, 0), (17, 3, .invokevirtual 62, 0, 0), (20, 1, .ireturn, 0, 0)]
theorem kX6_parcelOf_ok : fw_chk cX6_parcelOf 3 kX6_parcelOf = true := by decide +kernel
theorem kX6_parcelOf_cst : ∀ en ∈ kX6_parcelOf, fw_CstOK RX6 cst_X6 en := by
  have h : kX6_parcelOf.all (fw_cstq cp_X6) = true := by decide +kernel
  exact fun en he => fw_cstX cp_X6_ok cst_X6_ok (List.all_eq_true.mp h en he)
def kX6_parcel : List fw_Ent := [
  (0, 1, .aload_n 0, 0, 0), (1, 1, .iload_n 1, 0, 0), (2, 3, .invokevirtual 139, 0, 0), (5, 3, .ifCond .ne 9, 0, 14),
  (8, 1, .aload_n 0, 0, 0), (9, 1, .iconst 1, 1, 0), (10, 3, .invokevirtual 108, 0, 0), (13, 1, .ireturn, 0, 0),
  (14, 1, .iload_n 2, 0, 0), (15, 1, .iconst 0, 0, 0), (16, 2, .bipush 8, 8, 0), (18, 3, .invokestatic 40, 0, 0),
  (21, 3, .ifCond .eq 16, 0, 37), (24, 1, .aload_n 0, 0, 0), (25, 1, .aload_n 0, 0, 0), (26, 1, .iload_n 1, 0, 0),
  (27, 1, .iload_n 2, 0, 0), (28, 3, .invokevirtual 142, 0, 0), (31, 3, .invokevirtual 36, 0, 0), (34, 3, .goto 8, 0, 42),
  (37, 1, .aload_n 0, 0, 0), (38, 1, .iconst 2, 2, 0), (39, 3, .invokevirtual 108, 0, 0), (42, 1, .ireturn, 0, 0)]
theorem kX6_parcel_ok : fw_chk cX6_parcel 3 kX6_parcel = true := by decide +kernel
theorem kX6_parcel_cst : ∀ en ∈ kX6_parcel, fw_CstOK RX6 cst_X6 en := by
  have h : kX6_parcel.all (fw_cstq cp_X6) = true := by decide +kernel
  exact fun en he => fw_cstX cp_X6_ok cst_X6_ok (List.all_eq_true.mp h en he)
def kX6_legs : List fw_Ent := [
  (0, 1, .aload_n 0, 0, 0), (1, 1, .iload_n 1, 0, 0), (2, 3, .invokevirtual 139, 0, 0), (5, 3, .ifCond .eq 11, 0, 16),
  (8, 1, .aload_n 0, 0, 0), (9, 1, .iload_n 2, 0, 0), (10, 3, .invokevirtual 117, 0, 0), (13, 3, .ifCond .ne 9, 0, 22),
  (16, 1, .aload_n 0, 0, 0), (17, 1, .iconst 1, 1, 0), (18, 3, .invokevirtual 108, 0, 0), (21, 1, .ireturn, 0, 0),
  (22, 1, .aload_n 0, 0, 0), (23, 1, .aload_n 0, 0, 0), (24, 1, .iload_n 1, 0, 0), (25, 1, .iload_n 3, 0, 0),
  (26, 3, .ifCond .eq 8, 0, 34), (29, 2, .bipush 14, 14, 0), (31, 3, .goto 5, 0, 36), (34, 2, .bipush 8, 8, 0),
  (36, 1, .iload_n 2, 0, 0), (37, 1, .iadd, 0, 0), (38, 3, .invokevirtual 52, 0, 0), (41, 3, .invokevirtual 36, 0, 0),
  (44, 1, .ireturn, 0, 0)]
theorem kX6_legs_ok : fw_chk cX6_legs 4 kX6_legs = true := by decide +kernel
theorem kX6_legs_cst : ∀ en ∈ kX6_legs, fw_CstOK RX6 cst_X6 en := by
  have h : kX6_legs.all (fw_cstq cp_X6) = true := by decide +kernel
  exact fun en he => fw_cstX cp_X6_ok cst_X6_ok (List.all_eq_true.mp h en he)
def kX6_apart : List fw_Ent := [
  (0, 1, .iload_n 0, 0, 0), (1, 1, .iload_n 1, 0, 0), (2, 3, .if_icmp .ge 9, 0, 11), (5, 1, .iload_n 1, 0, 0),
  (6, 1, .iload_n 0, 0, 0), (7, 1, .isub, 0, 0), (8, 3, .goto 6, 0, 14), (11, 1, .iload_n 0, 0, 0),
  (12, 1, .iload_n 1, 0, 0), (13, 1, .isub, 0, 0), (14, 1, .ireturn, 0, 0)]
theorem kX6_apart_ok : fw_chk cX6_apart 2 kX6_apart = true := by decide +kernel
theorem kX6_apart_cst : ∀ en ∈ kX6_apart, fw_CstOK RX6 cst_X6 en := by
  have h : kX6_apart.all (fw_cstq cp_X6) = true := by decide +kernel
  exact fun en he => fw_cstX cp_X6_ok cst_X6_ok (List.all_eq_true.mp h en he)
def kX6_distance : List fw_Ent := [
  (0, 1, .iload_n 1, 0, 0), (1, 3, .invokestatic 105, 0, 0), (4, 3, .ifCond .eq 10, 0, 14), (7, 1, .iload_n 2, 0, 0),
  (8, 3, .invokestatic 105, 0, 0), (11, 3, .ifCond .ne 9, 0, 20), (14, 1, .aload_n 0, 0, 0), (15, 1, .iconst 1, 1, 0),
  (16, 3, .invokevirtual 108, 0, 0), (19, 1, .ireturn, 0, 0), (20, 1, .aload_n 0, 0, 0), (21, 1, .iload_n 1, 0, 0),
  (22, 1, .iconst 4, 4, 0), (23, 1, .irem, 0, 0), (24, 1, .iload_n 2, 0, 0), (25, 1, .iconst 4, 4, 0),
  (26, 1, .irem, 0, 0), (27, 3, .invokestatic 145, 0, 0), (30, 1, .iload_n 1, 0, 0), (31, 1, .iconst 4, 4, 0),
  (32, 1, .idiv, 0, 0), (33, 1, .iload_n 2, 0, 0), (34, 1, .iconst 4, 4, 0), (35, 1, .idiv, 0, 0),
  (36, 3, .invokestatic 145, 0, 0), (39, 1, .iadd, 0, 0), (40, 3, .invokevirtual 36, 0, 0), (43, 1, .ireturn, 0, 0)]
theorem kX6_distance_ok : fw_chk cX6_distance 3 kX6_distance = true := by decide +kernel
theorem kX6_distance_cst : ∀ en ∈ kX6_distance, fw_CstOK RX6 cst_X6 en := by
  have h : kX6_distance.all (fw_cstq cp_X6) = true := by decide +kernel
  exact fun en he => fw_cstX cp_X6_ok cst_X6_ok (List.all_eq_true.mp h en he)
def kX6_suited : List fw_Ent := [
  (0, 1, .aload_n 0, 0, 0), (1, 1, .iload_n 1, 0, 0), (2, 3, .invokevirtual 139, 0, 0), (5, 3, .ifCond .ne 9, 0, 14),
  (8, 1, .aload_n 0, 0, 0), (9, 1, .iconst 1, 1, 0), (10, 3, .invokevirtual 108, 0, 0), (13, 1, .ireturn, 0, 0),
  (14, 1, .iconst 0, 0, 0), (15, 1, .istore_n 2, 0, 0), (16, 1, .iconst 0, 0, 0), (17, 1, .istore_n 3, 0, 0),
  (18, 1, .iload_n 3, 0, 0), (19, 1, .aload_n 0, 0, 0), (20, 3, .getfield 7, 0, 0), (23, 1, .iconst 2, 2, 0),
  (24, 1, .iaload, 0, 0), (25, 3, .if_icmp .ge 38, 0, 63), (28, 1, .aload_n 0, 0, 0), (29, 1, .iload_n 1, 0, 0),
  (30, 1, .iconst 4, 4, 0), (31, 3, .invokevirtual 52, 0, 0), (34, 1, .iconst 2, 2, 0), (35, 3, .if_icmp .ge 28, 0, 63),
  (38, 1, .iload_n 2, 0, 0), (39, 1, .aload_n 0, 0, 0), (40, 1, .iload_n 1, 0, 0), (41, 1, .iload_n 3, 0, 0),
  (42, 3, .invokevirtual 79, 0, 0), (45, 3, .ifCond .eq 9, 0, 54), (48, 1, .iconst 1, 1, 0), (49, 1, .iload_n 3, 0, 0),
  (50, 1, .ishl, 0, 0), (51, 3, .goto 4, 0, 55), (54, 1, .iconst 0, 0, 0), (55, 1, .ior, 0, 0),
  (56, 1, .istore_n 2, 0, 0), (57, 3, .iinc 3 1, 1, 0), (60, 3, .goto (-42), 0, 18), (63, 1, .aload_n 0, 0, 0),
  (64, 1, .iload_n 2, 0, 0), (65, 3, .invokevirtual 36, 0, 0), (68, 1, .ireturn, 0, 0)]
theorem kX6_suited_ok : fw_chk cX6_suited 4 kX6_suited = true := by decide +kernel
theorem kX6_suited_cst : ∀ en ∈ kX6_suited, fw_CstOK RX6 cst_X6 en := by
  have h : kX6_suited.all (fw_cstq cp_X6) = true := by decide +kernel
  exact fun en he => fw_cstX cp_X6_ok cst_X6_ok (List.all_eq_true.mp h en he)
def kX6_reach : List fw_Ent := [
  (0, 1, .iload_n 2, 0, 0), (1, 2, .istore 4, 0, 0), (3, 2, .iload 4, 0, 0), (5, 1, .iload_n 3, 0, 0),
  (6, 3, .if_icmp .eq 38, 0, 44), (9, 1, .aload_n 0, 0, 0), (10, 1, .iload_n 1, 0, 0), (11, 2, .iload 4, 0, 0),
  (13, 3, .invokevirtual 55, 0, 0), (16, 3, .ifCond .eq 28, 0, 44), (19, 1, .aload_n 0, 0, 0), (20, 1, .iload_n 1, 0, 0),
  (21, 2, .iload 4, 0, 0), (23, 1, .iload_n 3, 0, 0), (24, 3, .invokestatic 59, 0, 0), (27, 3, .invokevirtual 55, 0, 0),
  (30, 3, .ifCond .eq 14, 0, 44), (33, 2, .iload 4, 0, 0), (35, 1, .iload_n 3, 0, 0), (36, 3, .invokestatic 59, 0, 0),
  (39, 2, .istore 4, 0, 0), (41, 3, .goto (-38), 0, 3), (44, 2, .iload 4, 0, 0), (46, 1, .ireturn, 0, 0)]
theorem kX6_reach_ok : fw_chk cX6_reach 5 kX6_reach = true := by decide +kernel
theorem kX6_reach_cst : ∀ en ∈ kX6_reach, fw_CstOK RX6 cst_X6 en := by
  have h : kX6_reach.all (fw_cstq cp_X6) = true := by decide +kernel
  exact fun en he => fw_cstX cp_X6_ok cst_X6_ok (List.all_eq_true.mp h en he)
def kX6_relays : List fw_Ent := [
  (0, 1, .aload_n 0, 0, 0), (1, 1, .iload_n 1, 0, 0), (2, 1, .iconst 0, 0, 0), (3, 3, .invokevirtual 52, 0, 0),
  (6, 1, .istore_n 2, 0, 0), (7, 1, .aload_n 0, 0, 0), (8, 1, .iload_n 1, 0, 0), (9, 1, .iconst 1, 1, 0),
  (10, 3, .invokevirtual 52, 0, 0), (13, 1, .istore_n 3, 0, 0), (14, 1, .iconst 0, 0, 0), (15, 2, .istore 4, 0, 0),
  (17, 1, .iload_n 2, 0, 0), (18, 1, .iload_n 3, 0, 0), (19, 3, .if_icmp .eq 119, 0, 138), (22, 1, .iload_n 2, 0, 0),
  (23, 2, .istore 5, 0, 0), (25, 1, .iconst 0, 0, 0), (26, 2, .istore 6, 0, 0), (28, 2, .iload 6, 0, 0),
  (30, 1, .aload_n 0, 0, 0), (31, 3, .getfield 7, 0, 0), (34, 1, .iconst 2, 2, 0), (35, 1, .iaload, 0, 0),
  (36, 3, .if_icmp .ge 85, 0, 121), (39, 1, .aload_n 0, 0, 0), (40, 2, .iload 6, 0, 0), (42, 1, .iload_n 2, 0, 0),
  (43, 1, .iload_n 3, 0, 0), (44, 3, .invokevirtual 148, 0, 0), (47, 2, .istore 7, 0, 0), (49, 2, .iload 7, 0, 0),
  (51, 1, .iconst 4, 4, 0), (52, 1, .irem, 0, 0), (53, 1, .iload_n 3, 0, 0), (54, 1, .iconst 4, 4, 0),
  (55, 1, .irem, 0, 0), (56, 3, .invokestatic 145, 0, 0), (59, 2, .iload 7, 0, 0), (61, 1, .iconst 4, 4, 0),
  (62, 1, .idiv, 0, 0), (63, 1, .iload_n 3, 0, 0), (64, 1, .iconst 4, 4, 0), (65, 1, .idiv, 0, 0),
  (66, 3, .invokestatic 145, 0, 0), (69, 1, .iadd, 0, 0), (70, 2, .iload 5, 0, 0), (72, 1, .iconst 4, 4, 0),
  (73, 1, .irem, 0, 0), (74, 1, .iload_n 3, 0, 0), (75, 1, .iconst 4, 4, 0), (76, 1, .irem, 0, 0),
  (77, 3, .invokestatic 145, 0, 0), (80, 2, .iload 5, 0, 0), (82, 1, .iconst 4, 4, 0), (83, 1, .idiv, 0, 0),
  (84, 1, .iload_n 3, 0, 0), (85, 1, .iconst 4, 4, 0), (86, 1, .idiv, 0, 0), (87, 3, .invokestatic 145, 0, 0),
  (90, 1, .iadd, 0, 0), (91, 3, .if_icmp .ge 7, 0, 98), (94, 1, .iconst 1, 1, 0), (95, 3, .goto 4, 0, 99),
  (98, 1, .iconst 0, 0, 0), (99, 2, .istore 8, 0, 0), (101, 2, .iload 8, 0, 0), (103, 3, .ifCond .eq 8, 0, 111),
  (106, 2, .iload 7, 0, 0), (108, 3, .goto 5, 0, 113), (111, 2, .iload 5, 0, 0), (113, 2, .istore 5, 0, 0),
  (115, 3, .iinc 6 1, 1, 0), (118, 3, .goto (-90), 0, 28), (121, 2, .iload 5, 0, 0), (123, 1, .iload_n 2, 0, 0),
  (124, 3, .if_icmp .ne 5, 0, 129), (127, 1, .iconst (-1), (-1), 0), (128, 1, .ireturn, 0, 0), (129, 2, .iload 5, 0, 0),
  (131, 1, .istore_n 2, 0, 0), (132, 3, .iinc 4 1, 1, 0), (135, 3, .goto (-118), 0, 17), (138, 2, .iload 4, 0, 0),
  (140, 1, .ireturn, 0, 0)]
theorem kX6_relays_ok : fw_chk cX6_relays 9 kX6_relays = true := by decide +kernel
theorem kX6_relays_cst : ∀ en ∈ kX6_relays, fw_CstOK RX6 cst_X6 en := by
  have h : kX6_relays.all (fw_cstq cp_X6) = true := by decide +kernel
  exact fun en he => fw_cstX cp_X6_ok cst_X6_ok (List.all_eq_true.mp h en he)
def kX6_leastRelay : List fw_Ent := [
  (0, 1, .aload_n 0, 0, 0), (1, 1, .iload_n 1, 0, 0), (2, 3, .invokevirtual 139, 0, 0), (5, 3, .ifCond .eq 15, 0, 20),
  (8, 1, .aload_n 0, 0, 0), (9, 1, .aload_n 0, 0, 0), (10, 1, .iload_n 1, 0, 0), (11, 3, .invokevirtual 152, 0, 0),
  (14, 3, .invokevirtual 36, 0, 0), (17, 3, .goto 8, 0, 25), (20, 1, .aload_n 0, 0, 0), (21, 1, .iconst 1, 1, 0),
  (22, 3, .invokevirtual 108, 0, 0), (25, 1, .ireturn, 0, 0)]
theorem kX6_leastRelay_ok : fw_chk cX6_leastRelay 2 kX6_leastRelay = true := by decide +kernel
theorem kX6_leastRelay_cst : ∀ en ∈ kX6_leastRelay, fw_CstOK RX6 cst_X6 en := by
  have h : kX6_leastRelay.all (fw_cstq cp_X6) = true := by decide +kernel
  exact fun en he => fw_cstX cp_X6_ok cst_X6_ok (List.all_eq_true.mp h en he)
def kX6_punctuality : List fw_Ent := [
  (0, 1, .aload_n 0, 0, 0), (1, 1, .iconst 0, 0, 0), (2, 3, .putfield 25, 0, 0), (5, 1, .iconst 0, 0, 0),
  (6, 1, .istore_n 1, 0, 0), (7, 1, .iconst 0, 0, 0), (8, 1, .istore_n 2, 0, 0), (9, 1, .iconst 0, 0, 0),
  (10, 1, .istore_n 3, 0, 0), (11, 1, .iload_n 3, 0, 0), (12, 1, .aload_n 0, 0, 0), (13, 3, .getfield 7, 0, 0),
  (16, 1, .iconst 3, 3, 0), (17, 1, .iaload, 0, 0), (18, 3, .if_icmp .ge 61, 0, 79), (21, 1, .iload_n 2, 0, 0),
  (22, 1, .aload_n 0, 0, 0), (23, 1, .iload_n 3, 0, 0), (24, 1, .iconst 4, 4, 0), (25, 3, .invokevirtual 52, 0, 0),
  (28, 1, .iconst 2, 2, 0), (29, 3, .if_icmp .lt 7, 0, 36), (32, 1, .iconst 1, 1, 0), (33, 3, .goto 4, 0, 37),
  (36, 1, .iconst 0, 0, 0), (37, 1, .iadd, 0, 0), (38, 1, .istore_n 2, 0, 0), (39, 1, .iload_n 1, 0, 0),
  (40, 1, .aload_n 0, 0, 0), (41, 1, .iload_n 3, 0, 0), (42, 1, .iconst 4, 4, 0), (43, 3, .invokevirtual 52, 0, 0),
  (46, 1, .iconst 2, 2, 0), (47, 3, .if_icmp .ne 23, 0, 70), (50, 1, .aload_n 0, 0, 0), (51, 1, .iload_n 3, 0, 0),
  (52, 2, .bipush 6, 6, 0), (54, 3, .invokevirtual 52, 0, 0), (57, 1, .aload_n 0, 0, 0), (58, 1, .iload_n 3, 0, 0),
  (59, 1, .iconst 2, 2, 0), (60, 3, .invokevirtual 52, 0, 0), (63, 3, .if_icmp .gt 7, 0, 70), (66, 1, .iconst 1, 1, 0),
  (67, 3, .goto 4, 0, 71), (70, 1, .iconst 0, 0, 0), (71, 1, .iadd, 0, 0), (72, 1, .istore_n 1, 0, 0),
  (73, 3, .iinc 3 1, 1, 0), (76, 3, .goto (-65), 0, 11), (79, 1, .iload_n 2, 0, 0), (80, 3, .ifCond .ne 7, 0, 87),
  (83, 1, .dconst 1, 0, 0), (84, 3, .goto 8, 0, 92), (87, 1, .iload_n 1, 0, 0), (88, 1, .i2d, 0, 0),
  (89, 1, .iload_n 2, 0, 0), (90, 1, .i2d, 0, 0), (91, 1, .ddiv, 0, 0), (92, 1, .dreturn, 0, 0)]
theorem kX6_punctuality_ok : fw_chk cX6_punctuality 4 kX6_punctuality = true := by decide +kernel
theorem kX6_punctuality_cst : ∀ en ∈ kX6_punctuality, fw_CstOK RX6 cst_X6 en := by
  have h : kX6_punctuality.all (fw_cstq cp_X6) = true := by decide +kernel
  exact fun en he => fw_cstX cp_X6_ok cst_X6_ok (List.all_eq_true.mp h en he)
def kX6_more : List fw_Ent := [
  (0, 1, .aload_n 0, 0, 0), (1, 3, .getfield 7, 0, 0), (4, 2, .bipush 6, 6, 0), (6, 1, .iaload, 0, 0),
  (7, 1, .istore_n 2, 0, 0), (8, 1, .aload_n 0, 0, 0), (9, 1, .iload_n 1, 0, 0), (10, 3, .invokevirtual 130, 0, 0),
  (13, 1, .aload_n 0, 0, 0), (14, 3, .getfield 7, 0, 0), (17, 2, .bipush 6, 6, 0), (19, 1, .iaload, 0, 0),
  (20, 1, .iload_n 2, 0, 0), (21, 1, .isub, 0, 0), (22, 1, .istore_n 3, 0, 0), (23, 1, .aload_n 0, 0, 0),
  (24, 3, .getfield 7, 0, 0), (27, 1, .aload_n 0, 0, 0), (28, 3, .getfield 19, 0, 0), (31, 3, .invokestatic 29, 0, 0),
  (34, 1, .iload_n 3, 0, 0), (35, 1, .ireturn, 0, 0)]
theorem kX6_more_ok : fw_chk cX6_more 4 kX6_more = true := by decide +kernel
theorem kX6_more_cst : ∀ en ∈ kX6_more, fw_CstOK RX6 cst_X6 en := by
  have h : kX6_more.all (fw_cstq cp_X6) = true := by decide +kernel
  exact fun en he => fw_cstX cp_X6_ok cst_X6_ok (List.all_eq_true.mp h en he)
def kX6_paidBy : List fw_Ent := [
  (0, 1, .aload_n 0, 0, 0), (1, 3, .getfield 19, 0, 0), (4, 1, .aload_n 0, 0, 0), (5, 3, .getfield 7, 0, 0),
  (8, 3, .invokestatic 29, 0, 0), (11, 1, .aload_n 0, 0, 0), (12, 1, .iload_n 1, 0, 0), (13, 3, .invokevirtual 155, 0, 0),
  (16, 1, .ireturn, 0, 0)]
theorem kX6_paidBy_ok : fw_chk cX6_paidBy 2 kX6_paidBy = true := by decide +kernel
theorem kX6_paidBy_cst : ∀ en ∈ kX6_paidBy, fw_CstOK RX6 cst_X6 en := by
  have h : kX6_paidBy.all (fw_cstq cp_X6) = true := by decide +kernel
  exact fun en he => fw_cstX cp_X6_ok cst_X6_ok (List.all_eq_true.mp h en he)
def kX6_isMany : List fw_Ent := [
  (0, 1, .iload_n 0, 0, 0), (1, 1, .iconst 0, 0, 0), (2, 3, .sipush 200, 200, 0), (5, 3, .invokestatic 40, 0, 0),
  (8, 1, .ireturn, 0, 0)]
theorem kX6_isMany_ok : fw_chk cX6_isMany 1 kX6_isMany = true := by decide +kernel
theorem kX6_isMany_cst : ∀ en ∈ kX6_isMany, fw_CstOK RX6 cst_X6 en := by
  have h : kX6_isMany.all (fw_cstq cp_X6) = true := by decide +kernel
  exact fun en he => fw_cstX cp_X6_ok cst_X6_ok (List.all_eq_true.mp h en he)
def kX6_paidIn : List fw_Ent := [
  (0, 1, .iload_n 1, 0, 0), (1, 3, .invokestatic 158, 0, 0), (4, 3, .ifCond .eq 15, 0, 19), (7, 1, .aload_n 0, 0, 0),
  (8, 1, .aload_n 0, 0, 0), (9, 1, .iload_n 1, 0, 0), (10, 3, .invokevirtual 161, 0, 0), (13, 3, .invokevirtual 36, 0, 0),
  (16, 3, .goto 8, 0, 24), (19, 1, .aload_n 0, 0, 0), (20, 1, .iconst 1, 1, 0), (21, 3, .invokevirtual 108, 0, 0),
  (24, 1, .ireturn, 0, 0)]
theorem kX6_paidIn_ok : fw_chk cX6_paidIn 2 kX6_paidIn = true := by decide +kernel
theorem kX6_paidIn_cst : ∀ en ∈ kX6_paidIn, fw_CstOK RX6 cst_X6 en := by
  have h : kX6_paidIn.all (fw_cstq cp_X6) = true := by decide +kernel
  exact fun en he => fw_cstX cp_X6_ok cst_X6_ok (List.all_eq_true.mp h en he)
def kX6_bestZone : List fw_Ent := [
  (0, 1, .aload_n 0, 0, 0), (1, 1, .iload_n 1, 0, 0), (2, 3, .invokevirtual 117, 0, 0), (5, 3, .ifCond .ne 9, 0, 14),
  (8, 1, .aload_n 0, 0, 0), (9, 1, .iconst 1, 1, 0), (10, 3, .invokevirtual 108, 0, 0), (13, 1, .ireturn, 0, 0),
  (14, 1, .iload_n 2, 0, 0), (15, 3, .invokestatic 158, 0, 0), (18, 3, .ifCond .ne 9, 0, 27), (21, 1, .aload_n 0, 0, 0),
  (22, 1, .iconst 2, 2, 0), (23, 3, .invokevirtual 108, 0, 0), (26, 1, .ireturn, 0, 0), (27, 1, .aload_n 0, 0, 0),
  (28, 1, .iload_n 2, 0, 0), (29, 3, .invokevirtual 161, 0, 0), (32, 1, .istore_n 3, 0, 0), (33, 1, .iconst (-1), (-1), 0),
  (34, 2, .istore 4, 0, 0), (36, 1, .iconst 0, 0, 0), (37, 2, .istore 5, 0, 0), (39, 2, .iload 5, 0, 0),
  (41, 2, .bipush 16, 16, 0), (43, 3, .if_icmp .ge 71, 0, 114), (46, 1, .aload_n 0, 0, 0), (47, 1, .iload_n 1, 0, 0),
  (48, 2, .iload 5, 0, 0), (50, 3, .invokevirtual 55, 0, 0), (53, 3, .ifCond .ne 55, 0, 108), (56, 1, .aload_n 0, 0, 0),
  (57, 1, .iload_n 1, 0, 0), (58, 1, .iconst 0, 0, 0), (59, 1, .aload_n 0, 0, 0), (60, 1, .iload_n 1, 0, 0),
  (61, 1, .iconst 0, 0, 0), (62, 3, .invokevirtual 44, 0, 0), (65, 1, .iconst 1, 1, 0), (66, 2, .iload 5, 0, 0),
  (68, 1, .ishl, 0, 0), (69, 1, .ior, 0, 0), (70, 3, .invokevirtual 48, 0, 0), (73, 1, .aload_n 0, 0, 0),
  (74, 1, .iload_n 2, 0, 0), (75, 3, .invokevirtual 155, 0, 0), (78, 2, .istore 6, 0, 0), (80, 2, .iload 6, 0, 0),
  (82, 1, .iload_n 3, 0, 0), (83, 3, .if_icmp .le 8, 0, 91), (86, 2, .iload 5, 0, 0), (88, 3, .goto 5, 0, 93),
  (91, 2, .iload 4, 0, 0), (93, 2, .istore 4, 0, 0), (95, 2, .iload 6, 0, 0), (97, 1, .iload_n 3, 0, 0),
  (98, 3, .if_icmp .le 8, 0, 106), (101, 2, .iload 6, 0, 0), (103, 3, .goto 4, 0, 107), (106, 1, .iload_n 3, 0, 0),
  (107, 1, .istore_n 3, 0, 0), (108, 3, .iinc 5 1, 1, 0), (111, 3, .goto (-72), 0, 39), (114, 1, .aload_n 0, 0, 0),
  (115, 2, .iload 4, 0, 0), (117, 3, .invokevirtual 36, 0, 0), (120, 1, .ireturn, 0, 0)]
theorem kX6_bestZone_ok : fw_chk cX6_bestZone 7 kX6_bestZone = true := by decide +kernel
theorem kX6_bestZone_cst : ∀ en ∈ kX6_bestZone, fw_CstOK RX6 cst_X6 en := by
  have h : kX6_bestZone.all (fw_cstq cp_X6) = true := by decide +kernel
  exact fun en he => fw_cstX cp_X6_ok cst_X6_ok (List.all_eq_true.mp h en he)
def kX6_worth : List fw_Ent := [
  (0, 1, .aload_n 0, 0, 0), (1, 1, .iload_n 1, 0, 0), (2, 3, .invokevirtual 117, 0, 0), (5, 3, .ifCond .ne 9, 0, 14),
  (8, 1, .aload_n 0, 0, 0), (9, 1, .iconst 1, 1, 0), (10, 3, .invokevirtual 108, 0, 0), (13, 1, .ireturn, 0, 0),
  (14, 1, .iload_n 2, 0, 0), (15, 3, .invokestatic 158, 0, 0), (18, 3, .ifCond .ne 9, 0, 27), (21, 1, .aload_n 0, 0, 0),
  (22, 1, .iconst 2, 2, 0), (23, 3, .invokevirtual 108, 0, 0), (26, 1, .ireturn, 0, 0), (27, 1, .aload_n 0, 0, 0),
  (28, 1, .iload_n 2, 0, 0), (29, 3, .invokevirtual 161, 0, 0), (32, 1, .istore_n 3, 0, 0), (33, 1, .aload_n 0, 0, 0),
  (34, 1, .iload_n 1, 0, 0), (35, 3, .invokevirtual 124, 0, 0), (38, 1, .pop, 0, 0), (39, 1, .aload_n 0, 0, 0),
  (40, 1, .iload_n 1, 0, 0), (41, 1, .iconst 0, 0, 0), (42, 1, .iconst 0, 0, 0), (43, 3, .invokevirtual 48, 0, 0),
  (46, 1, .aload_n 0, 0, 0), (47, 1, .iload_n 3, 0, 0), (48, 1, .aload_n 0, 0, 0), (49, 1, .iload_n 2, 0, 0),
  (50, 3, .invokevirtual 155, 0, 0), (53, 1, .isub, 0, 0), (54, 3, .invokevirtual 36, 0, 0), (57, 1, .ireturn, 0, 0)]
theorem kX6_worth_ok : fw_chk cX6_worth 4 kX6_worth = true := by decide +kernel
theorem kX6_worth_cst : ∀ en ∈ kX6_worth, fw_CstOK RX6 cst_X6 en := by
  have h : kX6_worth.all (fw_cstq cp_X6) = true := by decide +kernel
  exact fun en he => fw_cstX cp_X6_ok cst_X6_ok (List.all_eq_true.mp h en he)
def kX6_isDone : List fw_Ent := [
  (0, 1, .aload_n 0, 0, 0), (1, 1, .iconst 0, 0, 0), (2, 3, .invokevirtual 127, 0, 0), (5, 1, .aload_n 0, 0, 0),
  (6, 1, .iconst 1, 1, 0), (7, 3, .invokevirtual 127, 0, 0), (10, 1, .iadd, 0, 0), (11, 3, .ifCond .ne 7, 0, 18),
  (14, 1, .iconst 1, 1, 0), (15, 3, .goto 4, 0, 19), (18, 1, .iconst 0, 0, 0), (19, 1, .ireturn, 0, 0)]
theorem kX6_isDone_ok : fw_chk cX6_isDone 1 kX6_isDone = true := by decide +kernel
theorem kX6_isDone_cst : ∀ en ∈ kX6_isDone, fw_CstOK RX6 cst_X6 en := by
  have h : kX6_isDone.all (fw_cstq cp_X6) = true := by decide +kernel
  exact fun en he => fw_cstX cp_X6_ok cst_X6_ok (List.all_eq_true.mp h en he)
def kX6_doneIn : List fw_Ent := [
  (0, 1, .aload_n 0, 0, 0), (1, 3, .getfield 19, 0, 0), (4, 1, .aload_n 0, 0, 0), (5, 3, .getfield 7, 0, 0),
  (8, 3, .invokestatic 29, 0, 0), (11, 1, .iconst 0, 0, 0), (12, 1, .istore_n 1, 0, 0), (13, 1, .iload_n 1, 0, 0),
  (14, 3, .sipush 1200, 1200, 0), (17, 3, .if_icmp .ge 20, 0, 37), (20, 1, .aload_n 0, 0, 0), (21, 3, .invokevirtual 164, 0, 0),
  (24, 3, .ifCond .ne 13, 0, 37), (27, 1, .aload_n 0, 0, 0), (28, 3, .invokevirtual 97, 0, 0), (31, 3, .iinc 1 1, 1, 0),
  (34, 3, .goto (-21), 0, 13), (37, 1, .aload_n 0, 0, 0), (38, 3, .invokevirtual 164, 0, 0), (41, 1, .istore_n 2, 0, 0),
  (42, 1, .aload_n 0, 0, 0), (43, 3, .getfield 7, 0, 0), (46, 1, .aload_n 0, 0, 0), (47, 3, .getfield 19, 0, 0),
  (50, 3, .invokestatic 29, 0, 0), (53, 1, .aload_n 0, 0, 0), (54, 1, .iload_n 2, 0, 0), (55, 3, .ifCond .eq 7, 0, 62),
  (58, 1, .iload_n 1, 0, 0), (59, 3, .goto 4, 0, 63), (62, 1, .iconst (-1), (-1), 0), (63, 3, .invokevirtual 36, 0, 0),
  (66, 1, .ireturn, 0, 0)]
theorem kX6_doneIn_ok : fw_chk cX6_doneIn 3 kX6_doneIn = true := by decide +kernel
theorem kX6_doneIn_cst : ∀ en ∈ kX6_doneIn, fw_CstOK RX6 cst_X6 en := by
  have h : kX6_doneIn.all (fw_cstq cp_X6) = true := by decide +kernel
  exact fun en he => fw_cstX cp_X6_ok cst_X6_ok (List.all_eq_true.mp h en he)
def kX6_append : List fw_Ent := [
  (0, 1, .iload_n 1, 0, 0), (1, 1, .iconst 0, 0, 0), (2, 2, .bipush 127, 127, 0), (4, 3, .invokestatic 40, 0, 0),
  (7, 3, .ifCond .ne 9, 0, 16), (10, 1, .aload_n 0, 0, 0), (11, 1, .iconst 1, 1, 0), (12, 3, .invokevirtual 108, 0, 0),
  (15, 1, .ireturn, 0, 0), (16, 1, .aload_n 0, 0, 0), (17, 3, .getfield 168, 0, 0), (20, 3, .sipush 150, 150, 0),
  (23, 3, .if_icmp .ne 9, 0, 32), (26, 1, .aload_n 0, 0, 0), (27, 1, .iconst 2, 2, 0), (28, 3, .invokevirtual 108, 0, 0),
  (31, 1, .ireturn, 0, 0), (32, 1, .aload_n 0, 0, 0), (33, 3, .getfield 22, 0, 0), (36, 1, .aload_n 0, 0, 0),
  (37, 3, .getfield 168, 0, 0), (40, 1, .iload_n 1, 0, 0), (41, 1, .iastore, 0, 0), (42, 1, .aload_n 0, 0, 0),
  (43, 1, .dup, 0, 0), (44, 3, .getfield 168, 0, 0), (47, 1, .iconst 1, 1, 0), (48, 1, .iadd, 0, 0),
  (49, 3, .putfield 168, 0, 0), (52, 1, .aload_n 0, 0, 0), (53, 1, .aload_n 0, 0, 0), (54, 3, .getfield 168, 0, 0),
  (57, 3, .invokevirtual 36, 0, 0), (60, 1, .ireturn, 0, 0)]
theorem kX6_append_ok : fw_chk cX6_append 2 kX6_append = true := by decide +kernel
theorem kX6_append_cst : ∀ en ∈ kX6_append, fw_CstOK RX6 cst_X6 en := by
  have h : kX6_append.all (fw_cstq cp_X6) = true := by decide +kernel
  exact fun en he => fw_cstX cp_X6_ok cst_X6_ok (List.all_eq_true.mp h en he)
def kX6_clearText : List fw_Ent := [
  (0, 1, .aload_n 0, 0, 0), (1, 3, .getfield 168, 0, 0), (4, 1, .istore_n 1, 0, 0), (5, 1, .aload_n 0, 0, 0),
  (6, 1, .iconst 0, 0, 0), (7, 3, .putfield 168, 0, 0), (10, 1, .aload_n 0, 0, 0), (11, 1, .iload_n 1, 0, 0),
  (12, 3, .invokevirtual 36, 0, 0), (15, 1, .ireturn, 0, 0)]
theorem kX6_clearText_ok : fw_chk cX6_clearText 2 kX6_clearText = true := by decide +kernel
theorem kX6_clearText_cst : ∀ en ∈ kX6_clearText, fw_CstOK RX6 cst_X6 en := by
  have h : kX6_clearText.all (fw_cstq cp_X6) = true := by decide +kernel
  exact fun en he => fw_cstX cp_X6_ok cst_X6_ok (List.all_eq_true.mp h en he)
def kX6_isAt : List fw_Ent := [
  (0, 1, .aload_n 0, 0, 0), (1, 3, .getfield 171, 0, 0), (4, 1, .aload_n 0, 0, 0), (5, 3, .getfield 168, 0, 0),
  (8, 3, .if_icmp .ge 24, 0, 32), (11, 1, .aload_n 0, 0, 0), (12, 3, .getfield 22, 0, 0), (15, 1, .aload_n 0, 0, 0),
  (16, 3, .getfield 171, 0, 0), (19, 1, .iaload, 0, 0), (20, 1, .iload_n 1, 0, 0), (21, 1, .iload_n 2, 0, 0),
  (22, 3, .invokestatic 40, 0, 0), (25, 3, .ifCond .eq 7, 0, 32), (28, 1, .iconst 1, 1, 0), (29, 3, .goto 4, 0, 33),
  (32, 1, .iconst 0, 0, 0), (33, 1, .ireturn, 0, 0)]
theorem kX6_isAt_ok : fw_chk cX6_isAt 3 kX6_isAt = true := by decide +kernel
theorem kX6_isAt_cst : ∀ en ∈ kX6_isAt, fw_CstOK RX6 cst_X6 en := by
  have h : kX6_isAt.all (fw_cstq cp_X6) = true := by decide +kernel
  exact fun en he => fw_cstX cp_X6_ok cst_X6_ok (List.all_eq_true.mp h en he)
def kX6_isNumber : List fw_Ent := [
  (0, 1, .aload_n 0, 0, 0), (1, 3, .getfield 171, 0, 0), (4, 2, .istore 6, 0, 0), (6, 1, .aload_n 0, 0, 0),
  (7, 1, .iconst 0, 0, 0), (8, 3, .putfield 174, 0, 0), (11, 1, .aload_n 0, 0, 0), (12, 3, .getfield 171, 0, 0),
  (15, 2, .iload 6, 0, 0), (17, 1, .isub, 0, 0), (18, 1, .iload_n 1, 0, 0), (19, 3, .if_icmp .ge 51, 0, 70),
  (22, 1, .aload_n 0, 0, 0), (23, 2, .bipush 48, 48, 0), (25, 2, .bipush 57, 57, 0), (27, 3, .invokevirtual 177, 0, 0),
  (30, 3, .ifCond .eq 40, 0, 70), (33, 1, .aload_n 0, 0, 0), (34, 2, .bipush 10, 10, 0), (36, 1, .aload_n 0, 0, 0),
  (37, 3, .getfield 174, 0, 0), (40, 1, .imul, 0, 0), (41, 1, .aload_n 0, 0, 0), (42, 3, .getfield 22, 0, 0),
  (45, 1, .aload_n 0, 0, 0), (46, 3, .getfield 171, 0, 0), (49, 1, .iaload, 0, 0), (50, 1, .iadd, 0, 0),
  (51, 2, .bipush 48, 48, 0), (53, 1, .isub, 0, 0), (54, 3, .putfield 174, 0, 0), (57, 1, .aload_n 0, 0, 0),
  (58, 1, .dup, 0, 0), (59, 3, .getfield 171, 0, 0), (62, 1, .iconst 1, 1, 0), (63, 1, .iadd, 0, 0),
  (64, 3, .putfield 171, 0, 0), (67, 3, .goto (-56), 0, 11), (70, 1, .aload_n 0, 0, 0), (71, 3, .getfield 171, 0, 0),
  (74, 2, .iload 6, 0, 0), (76, 3, .if_icmp .eq 14, 0, 90), (79, 1, .aload_n 0, 0, 0), (80, 2, .bipush 48, 48, 0),
  (82, 2, .bipush 57, 57, 0), (84, 3, .invokevirtual 177, 0, 0), (87, 3, .ifCond .eq 5, 0, 92), (90, 1, .iconst 0, 0, 0),
  (91, 1, .ireturn, 0, 0), (92, 1, .aload_n 0, 0, 0), (93, 3, .getfield 174, 0, 0), (96, 1, .iload_n 2, 0, 0),
  (97, 1, .iload_n 3, 0, 0), (98, 3, .invokestatic 40, 0, 0), (101, 3, .ifCond .eq 12, 0, 113), (104, 1, .aload_n 0, 0, 0),
  (105, 3, .getfield 174, 0, 0), (108, 2, .iload 4, 0, 0), (110, 3, .if_icmp .ne 11, 0, 121), (113, 1, .aload_n 0, 0, 0),
  (114, 2, .iload 6, 0, 0), (116, 3, .putfield 171, 0, 0), (119, 1, .iconst 0, 0, 0), (120, 1, .ireturn, 0, 0),
  (121, 1, .aload_n 0, 0, 0), (122, 2, .iload 5, 0, 0), (124, 2, .iload 5, 0, 0), (126, 3, .invokevirtual 177, 0, 0),
  (129, 2, .istore 7, 0, 0), (131, 1, .aload_n 0, 0, 0), (132, 1, .dup, 0, 0), (133, 3, .getfield 171, 0, 0),
  (136, 2, .iload 7, 0, 0), (138, 3, .ifCond .eq 7, 0, 145), (141, 1, .iconst 1, 1, 0), (142, 3, .goto 4, 0, 146),
  (145, 1, .iconst 0, 0, 0), (146, 1, .iadd, 0, 0), (147, 3, .putfield 171, 0, 0), (150, 2, .iload 7, 0, 0),
  (152, 1, .ireturn, 0, 0)]
theorem kX6_isNumber_ok : fw_chk cX6_isNumber 8 kX6_isNumber = true := by decide +kernel
theorem kX6_isNumber_cst : ∀ en ∈ kX6_isNumber, fw_CstOK RX6 cst_X6 en := by
  have h : kX6_isNumber.all (fw_cstq cp_X6) = true := by decide +kernel
  exact fun en he => fw_cstX cp_X6_ok cst_X6_ok (List.all_eq_true.mp h en he)
def kX6_isItem : List fw_Ent := [
  (0, 1, .aload_n 0, 0, 0), (1, 3, .getfield 7, 0, 0), (4, 1, .iconst 3, 3, 0), (5, 1, .iaload, 0, 0),
  (6, 2, .bipush 24, 24, 0), (8, 3, .if_icmp .eq 17, 0, 25), (11, 1, .aload_n 0, 0, 0), (12, 1, .iconst 2, 2, 0),
  (13, 1, .iconst 0, 0, 0), (14, 2, .bipush 15, 15, 0), (16, 1, .iconst (-1), (-1), 0), (17, 2, .bipush 44, 44, 0),
  (19, 3, .invokevirtual 180, 0, 0), (22, 3, .ifCond .ne 5, 0, 27), (25, 1, .iconst 0, 0, 0), (26, 1, .ireturn, 0, 0),
  (27, 1, .aload_n 0, 0, 0), (28, 3, .getfield 174, 0, 0), (31, 1, .istore_n 1, 0, 0), (32, 1, .aload_n 0, 0, 0),
  (33, 1, .iconst 2, 2, 0), (34, 1, .iconst 0, 0, 0), (35, 2, .bipush 15, 15, 0), (37, 1, .iload_n 1, 0, 0),
  (38, 2, .bipush 44, 44, 0), (40, 3, .invokevirtual 180, 0, 0), (43, 3, .ifCond .ne 5, 0, 48), (46, 1, .iconst 0, 0, 0),
  (47, 1, .ireturn, 0, 0), (48, 1, .aload_n 0, 0, 0), (49, 3, .getfield 174, 0, 0), (52, 1, .istore_n 2, 0, 0),
  (53, 1, .aload_n 0, 0, 0), (54, 1, .iconst 3, 3, 0), (55, 1, .iconst 1, 1, 0), (56, 3, .sipush 999, 999, 0),
  (59, 1, .iconst (-1), (-1), 0), (60, 2, .bipush 44, 44, 0), (62, 3, .invokevirtual 180, 0, 0), (65, 3, .ifCond .ne 5, 0, 70),
  (68, 1, .iconst 0, 0, 0), (69, 1, .ireturn, 0, 0), (70, 1, .aload_n 0, 0, 0), (71, 3, .getfield 174, 0, 0),
  (74, 1, .istore_n 3, 0, 0), (75, 1, .aload_n 0, 0, 0), (76, 1, .iconst 4, 4, 0), (77, 1, .iconst 0, 0, 0),
  (78, 3, .sipush 1000, 1000, 0), (81, 1, .iconst (-1), (-1), 0), (82, 2, .bipush 59, 59, 0), (84, 3, .invokevirtual 180, 0, 0),
  (87, 3, .ifCond .ne 5, 0, 92), (90, 1, .iconst 0, 0, 0), (91, 1, .ireturn, 0, 0), (92, 1, .aload_n 0, 0, 0),
  (93, 1, .iload_n 1, 0, 0), (94, 1, .iload_n 2, 0, 0), (95, 1, .iload_n 3, 0, 0), (96, 1, .aload_n 0, 0, 0),
  (97, 3, .getfield 174, 0, 0), (100, 3, .invokevirtual 120, 0, 0), (103, 1, .iconst 1, 1, 0), (104, 1, .ireturn, 0, 0)]
theorem kX6_isItem_ok : fw_chk cX6_isItem 4 kX6_isItem = true := by decide +kernel
theorem kX6_isItem_cst : ∀ en ∈ kX6_isItem, fw_CstOK RX6 cst_X6 en := by
  have h : kX6_isItem.all (fw_cstq cp_X6) = true := by decide +kernel
  exact fun en he => fw_cstX cp_X6_ok cst_X6_ok (List.all_eq_true.mp h en he)
def kX6_parse : List fw_Ent := [
  (0, 1, .aload_n 0, 0, 0), (1, 1, .iconst 0, 0, 0), (2, 3, .putfield 25, 0, 0), (5, 1, .aload_n 0, 0, 0),
  (6, 3, .invokevirtual 111, 0, 0), (9, 1, .aload_n 0, 0, 0), (10, 1, .iconst 0, 0, 0), (11, 3, .putfield 171, 0, 0),
  (14, 1, .aload_n 0, 0, 0), (15, 3, .getfield 171, 0, 0), (18, 1, .aload_n 0, 0, 0), (19, 3, .getfield 168, 0, 0),
  (22, 3, .if_icmp .ge 29, 0, 51), (25, 1, .aload_n 0, 0, 0), (26, 3, .invokevirtual 184, 0, 0), (29, 3, .ifCond .ne (-15), 0, 14),
  (32, 1, .aload_n 0, 0, 0), (33, 3, .getfield 7, 0, 0), (36, 1, .aload_n 0, 0, 0), (37, 3, .getfield 16, 0, 0),
  (40, 3, .invokestatic 29, 0, 0), (43, 2, .bipush (-10), (-10), 0), (45, 1, .aload_n 0, 0, 0), (46, 3, .getfield 171, 0, 0),
  (49, 1, .isub, 0, 0), (50, 1, .ireturn, 0, 0), (51, 1, .aload_n 0, 0, 0), (52, 1, .aload_n 0, 0, 0),
  (53, 3, .getfield 7, 0, 0), (56, 1, .iconst 3, 3, 0), (57, 1, .iaload, 0, 0), (58, 3, .invokevirtual 114, 0, 0),
  (61, 1, .ireturn, 0, 0)]
theorem kX6_parse_ok : fw_chk cX6_parse 1 kX6_parse = true := by decide +kernel
theorem kX6_parse_cst : ∀ en ∈ kX6_parse, fw_CstOK RX6 cst_X6 en := by
  have h : kX6_parse.all (fw_cstq cp_X6) = true := by decide +kernel
  exact fun en he => fw_cstX cp_X6_ok cst_X6_ok (List.all_eq_true.mp h en he)
def kX6_undo : List fw_Ent := [
  (0, 1, .aload_n 0, 0, 0), (1, 3, .getfield 33, 0, 0), (4, 3, .ifCond .ne 9, 0, 13), (7, 1, .aload_n 0, 0, 0),
  (8, 1, .iconst 1, 1, 0), (9, 3, .invokevirtual 108, 0, 0), (12, 1, .ireturn, 0, 0), (13, 1, .aload_n 0, 0, 0),
  (14, 1, .dup, 0, 0), (15, 3, .getfield 33, 0, 0), (18, 1, .iconst 1, 1, 0), (19, 1, .isub, 0, 0),
  (20, 3, .putfield 33, 0, 0), (23, 1, .iconst 0, 0, 0), (24, 1, .istore_n 1, 0, 0), (25, 1, .iload_n 1, 0, 0),
  (26, 3, .sipush 517, 517, 0), (29, 3, .if_icmp .ge 30, 0, 59), (32, 1, .aload_n 0, 0, 0), (33, 3, .getfield 7, 0, 0),
  (36, 1, .iload_n 1, 0, 0), (37, 1, .aload_n 0, 0, 0), (38, 3, .getfield 13, 0, 0), (41, 3, .sipush 517, 517, 0),
  (44, 1, .aload_n 0, 0, 0), (45, 3, .getfield 33, 0, 0), (48, 1, .imul, 0, 0), (49, 1, .iload_n 1, 0, 0),
  (50, 1, .iadd, 0, 0), (51, 1, .iaload, 0, 0), (52, 1, .iastore, 0, 0), (53, 3, .iinc 1 1, 1, 0),
  (56, 3, .goto (-31), 0, 25), (59, 1, .aload_n 0, 0, 0), (60, 1, .aload_n 0, 0, 0), (61, 3, .getfield 33, 0, 0),
  (64, 3, .invokevirtual 36, 0, 0), (67, 1, .ireturn, 0, 0)]
theorem kX6_undo_ok : fw_chk cX6_undo 2 kX6_undo = true := by decide +kernel
theorem kX6_undo_cst : ∀ en ∈ kX6_undo, fw_CstOK RX6 cst_X6 en := by
  have h : kX6_undo.all (fw_cstq cp_X6) = true := by decide +kernel
  exact fun en he => fw_cstX cp_X6_ok cst_X6_ok (List.all_eq_true.mp h en he)
def kX6_mix : List fw_Ent := [
  (0, 1, .aload_n 0, 0, 0), (1, 3, .ldc2_w 187, 0, 0), (4, 1, .aload_n 0, 0, 0), (5, 3, .getfield 189, 0, 0),
  (8, 1, .lmul, 0, 0), (9, 1, .iload_n 1, 0, 0), (10, 1, .i2l, 0, 0), (11, 1, .ladd, 0, 0),
  (12, 3, .putfield 189, 0, 0), (15, 1, .return_, 0, 0)]
theorem kX6_mix_ok : fw_chk cX6_mix 2 kX6_mix = true := by decide +kernel
theorem kX6_mix_cst : ∀ en ∈ kX6_mix, fw_CstOK RX6 cst_X6 en := by
  have h : kX6_mix.all (fw_cstq cp_X6) = true := by decide +kernel
  exact fun en he => fw_cstX cp_X6_ok cst_X6_ok (List.all_eq_true.mp h en he)
def kX6_digest : List fw_Ent := [
  (0, 1, .aload_n 0, 0, 0), (1, 1, .iconst 0, 0, 0), (2, 3, .putfield 25, 0, 0), (5, 1, .aload_n 0, 0, 0),
  (6, 3, .ldc2_w 193, 0, 0), (9, 3, .putfield 189, 0, 0), (12, 1, .aload_n 0, 0, 0), (13, 1, .aload_n 0, 0, 0),
  (14, 3, .getfield 168, 0, 0), (17, 3, .invokevirtual 195, 0, 0), (20, 1, .iconst 0, 0, 0), (21, 1, .istore_n 1, 0, 0),
  (22, 1, .iload_n 1, 0, 0), (23, 2, .bipush 11, 11, 0), (25, 3, .if_icmp .ge 18, 0, 43), (28, 1, .aload_n 0, 0, 0),
  (29, 1, .aload_n 0, 0, 0), (30, 1, .iload_n 1, 0, 0), (31, 3, .invokevirtual 133, 0, 0), (34, 3, .invokevirtual 195, 0, 0),
  (37, 3, .iinc 1 1, 1, 0), (40, 3, .goto (-18), 0, 22), (43, 1, .iconst 0, 0, 0), (44, 1, .istore_n 1, 0, 0),
  (45, 1, .iload_n 1, 0, 0), (46, 1, .aload_n 0, 0, 0), (47, 3, .getfield 7, 0, 0), (50, 1, .iconst 2, 2, 0),
  (51, 1, .iaload, 0, 0), (52, 3, .if_icmp .ge 33, 0, 85), (55, 1, .iconst 0, 0, 0), (56, 1, .istore_n 2, 0, 0),
  (57, 1, .iload_n 2, 0, 0), (58, 2, .bipush 6, 6, 0), (60, 3, .if_icmp .ge 19, 0, 79), (63, 1, .aload_n 0, 0, 0),
  (64, 1, .aload_n 0, 0, 0), (65, 1, .iload_n 1, 0, 0), (66, 1, .iload_n 2, 0, 0), (67, 3, .invokevirtual 136, 0, 0),
  (70, 3, .invokevirtual 195, 0, 0), (73, 3, .iinc 2 1, 1, 0), (76, 3, .goto (-19), 0, 57), (79, 3, .iinc 1 1, 1, 0),
  (82, 3, .goto (-37), 0, 45), (85, 1, .iconst 0, 0, 0), (86, 1, .istore_n 1, 0, 0), (87, 1, .iload_n 1, 0, 0),
  (88, 1, .aload_n 0, 0, 0), (89, 3, .getfield 7, 0, 0), (92, 1, .iconst 3, 3, 0), (93, 1, .iaload, 0, 0),
  (94, 3, .if_icmp .ge 77, 0, 171), (97, 1, .iconst 0, 0, 0), (98, 1, .istore_n 2, 0, 0), (99, 1, .iload_n 2, 0, 0),
  (100, 2, .bipush 9, 9, 0), (102, 3, .if_icmp .ge 19, 0, 121), (105, 1, .aload_n 0, 0, 0), (106, 1, .aload_n 0, 0, 0),
  (107, 1, .iload_n 1, 0, 0), (108, 1, .iload_n 2, 0, 0), (109, 3, .invokevirtual 142, 0, 0), (112, 3, .invokevirtual 195, 0, 0),
  (115, 3, .iinc 2 1, 1, 0), (118, 3, .goto (-19), 0, 99), (121, 1, .iconst 0, 0, 0), (122, 1, .istore_n 2, 0, 0),
  (123, 1, .iload_n 2, 0, 0), (124, 1, .aload_n 0, 0, 0), (125, 3, .getfield 7, 0, 0), (128, 1, .iconst 2, 2, 0),
  (129, 1, .iaload, 0, 0), (130, 3, .if_icmp .ge 35, 0, 165), (133, 1, .aload_n 0, 0, 0), (134, 1, .aload_n 0, 0, 0),
  (135, 1, .iload_n 1, 0, 0), (136, 2, .bipush 8, 8, 0), (138, 1, .iload_n 2, 0, 0), (139, 1, .iadd, 0, 0),
  (140, 3, .invokevirtual 52, 0, 0), (143, 3, .invokevirtual 195, 0, 0), (146, 1, .aload_n 0, 0, 0), (147, 1, .aload_n 0, 0, 0),
  (148, 1, .iload_n 1, 0, 0), (149, 2, .bipush 14, 14, 0), (151, 1, .iload_n 2, 0, 0), (152, 1, .iadd, 0, 0),
  (153, 3, .invokevirtual 52, 0, 0), (156, 3, .invokevirtual 195, 0, 0), (159, 3, .iinc 2 1, 1, 0), (162, 3, .goto (-39), 0, 123),
  (165, 3, .iinc 1 1, 1, 0), (168, 3, .goto (-81), 0, 87), (171, 1, .aload_n 0, 0, 0), (172, 1, .aload_n 0, 0, 0),
  (173, 3, .getfield 33, 0, 0), (176, 3, .invokevirtual 195, 0, 0), (179, 1, .aload_n 0, 0, 0), (180, 3, .getfield 189, 0, 0),
  (183, 1, .lreturn, 0, 0)]
theorem kX6_digest_ok : fw_chk cX6_digest 3 kX6_digest = true := by decide +kernel
theorem kX6_digest_cst : ∀ en ∈ kX6_digest, fw_CstOK RX6 cst_X6 en := by
  have h : kX6_digest.all (fw_cstq cp_X6) = true := by decide +kernel
  exact fun en he => fw_cstX cp_X6_ok cst_X6_ok (List.all_eq_true.mp h en he)
end
section
/-! PLAIN FACTS that the walks use: places, rows of the memory, small numbers -/
section BS
theorem kd_at {B o k : Nat} (h : fw_ko o = k) : fw_kd B (B + o) = k := by
  unfold fw_kd
  rw [if_neg (by omega), Nat.add_sub_cancel_left]
  exact h
theorem kd_492 {B : Nat} : fw_kd B (B + 492) = 6 := kd_at (by decide)
theorem kd_493 {B : Nat} : fw_kd B (B + 493) = 7 := kd_at (by decide)
theorem kd_494 {B : Nat} : fw_kd B (B + 494) = 7 := kd_at (by decide)
theorem kd_495 {B : Nat} : fw_kd B (B + 495) = 7 := kd_at (by decide)
theorem kd_496 {B : Nat} : fw_kd B (B + 496) = 7 := kd_at (by decide)
theorem kd_497 {B : Nat} : fw_kd B (B + 497) = 7 := kd_at (by decide)
theorem ln_at {B o k : Nat} (h : fw_lo o = k) : fw_len B (B + o) = k := by
  unfold fw_len
  rw [Nat.add_sub_cancel_left]
  exact h
theorem ln_493 {B : Nat} : fw_len B (B + 493) = 517 := ln_at (by decide)
theorem ln_494 {B : Nat} : fw_len B (B + 494) = 2068 := ln_at (by decide)
theorem ln_495 {B : Nat} : fw_len B (B + 495) = 517 := ln_at (by decide)
theorem ln_496 {B : Nat} : fw_len B (B + 496) = 517 := ln_at (by decide)
theorem ln_497 {B : Nat} : fw_len B (B + 497) = 150 := ln_at (by decide)
theorem row_1 {M : fw_M} {a : Nat} {f : Nat → Int32} : (fw_row M a f).1 a = f := if_pos rfl
theorem row_n {M : fw_M} {a b : Nat} {f : Nat → Int32} (h : b ≠ a) : (fw_row M a f).1 b = M.1 b := if_neg h
theorem row_2 {M : fw_M} {a : Nat} {f : Nat → Int32} : (fw_row M a f).2 = M.2 := rfl
theorem row_row {M : fw_M} {a : Nat} {f f' : Nat → Int32} : fw_row (fw_row M a f) a f' = fw_row M a f' := by
  unfold fw_row
  refine Prod.ext (funext fun b => ?_) rfl
  dsimp only
  by_cases h : b = a
  · rw [if_pos h, if_pos h]
  · rw [if_neg h, if_neg h, if_neg h]
theorem row_self {M : fw_M} {a : Nat} : fw_row M a (M.1 a) = M := by
  refine Prod.ext (funext fun b => ?_) rfl
  show (if b = a then M.1 a else M.1 b) = M.1 b
  by_cases h : b = a
  · rw [if_pos h, h]
  · rw [if_neg h]
theorem row_comm {M : fw_M} {a b : Nat} {f f' : Nat → Int32} (h : a ≠ b) : fw_row (fw_row M a f) b f' = fw_row (fw_row M b f') a f := by
  refine Prod.ext (funext fun c => ?_) rfl
  show (if c = b then f' else if c = a then f else M.1 c) = (if c = a then f else if c = b then f' else M.1 c)
  by_cases h1 : c = b
  · subst h1
    rw [if_pos rfl, if_neg (Ne.symm h), if_pos rfl]
  · rw [if_neg h1, if_neg h1]
theorem st_row {M : fw_M} {a k : Nat} {x : Int32} : fw_st M a k x = fw_row M a (upd (M.1 a) k x) := rfl
theorem stl_1 {M : fw_M} {j : Nat} {x : Int64} : (fw_stl M j x).1 = M.1 := rfl
theorem upd_s {f : Nat → Int32} {k : Nat} {x : Int32} : upd f k x k = x := if_pos rfl
theorem upd_n {f : Nat → Int32} {k j : Nat} {x : Int32} (h : j ≠ k) : upd f k x j = f j := if_neg h
theorem upd_upd {f : Nat → Int32} {k : Nat} {x y : Int32} : upd (upd f k x) k y = upd f k y := by
  funext j
  unfold upd
  by_cases h : j = k
  · rw [if_pos h, if_pos h]
  · rw [if_neg h, if_neg h, if_neg h]
theorem upd_comm {f : Nat → Int32} {k j : Nat} {x y : Int32} (h : k ≠ j) : upd (upd f k x) j y = upd (upd f j y) k x := by
  funext i
  unfold upd
  by_cases h1 : i = j
  · subst h1
    rw [if_pos rfl, if_neg (Ne.symm h), if_pos rfl]
  · rw [if_neg h1, if_neg h1]
theorem upd_self {f : Nat → Int32} {k : Nat} : upd f k (f k) = f := by
  funext j
  unfold upd
  by_cases h : j = k
  · rw [if_pos h, h]
  · rw [if_neg h]
/-- one or zero -/
def bi (b : Bool) : Int32 := bif b then 1 else 0
theorem bi_0 {b : Bool} : bi b = 0 ↔ b = false := by cases b <;> decide
theorem bi_n0 {b : Bool} : ¬ bi b = 0 ↔ b = true := by cases b <;> decide
theorem bi_1 {b : Bool} : bi b = 1 ↔ b = true := by cases b <;> decide
theorem bi_01 {b : Bool} : bi b = 0 ∨ bi b = 1 := by cases b <;> decide
theorem bi_t : bi true = 1 := rfl
theorem bi_f : bi false = 0 := rfl
/-- the first n of one, the rest of another -/
def cpN (n : Nat) (f g : Nat → Int32) : Nat → Int32 := fun k => if k < n then f k else g k
theorem cpN_0 {f g : Nat → Int32} : cpN 0 f g = g := by funext k; simp [cpN]
theorem cpN_s {n : Nat} {f g : Nat → Int32} : upd (cpN n f g) n (f n) = cpN (n + 1) f g := by
  funext k
  unfold upd cpN
  by_cases h : k = n
  · subst h; simp
  · rw [if_neg h]
    by_cases h2 : k < n
    · rw [if_pos h2, if_pos (by omega)]
    · rw [if_neg h2, if_neg (by omega)]
theorem n_ge {a b : Nat} (ha : a < 2 ^ 31) (hb : b < 2 ^ 31) : nI a ≤ nI b ↔ a ≤ b := nI_leI ha hb
theorem n_lt {a b : Nat} (ha : a < 2 ^ 31) (hb : b < 2 ^ 31) : nI a < nI b ↔ a < b := nI_ltI ha hb
theorem n_add (a b : Nat) : nI a + nI b = nI (a + b) := nI_add a b
theorem n_mul (a b : Nat) : nI a * nI b = nI (a * b) := pk_mul a b
theorem n_cl {n : Nat} (h : n < 2 ^ 31) : (nI n).toNatClampNeg = n := nI_clamp h
theorem n_in {n N : Nat} (h : n < N) (hN : N < 2 ^ 31) : vp_in (nI n) N := vp_in_nI h hN
/-- the places of the reference's row -/
theorem ixC {c w : Nat} : (7 : Int32) + 5 * nI c + nI w = nI (7 + 5 * c + w) := by
  rw [show (7 : Int32) = nI 7 from rfl, show (5 : Int32) = nI 5 from rfl, n_mul, n_add, n_add]
theorem ixP {p w : Nat} : (37 : Int32) + 20 * nI p + nI w = nI (37 + 20 * p + w) := by
  rw [show (37 : Int32) = nI 37 from rfl, show (20 : Int32) = nI 20 from rfl, n_mul, n_add, n_add]
end BS
end
section
/-! the places of the reference's row, with the numbers as the code has them -/
section B2
theorem cx0 {c : Nat} : (7 : Int32) + 5 * nI c + 0 = nI (7 + 5 * c + 0) := ixC
theorem vC0 {c : Nat} (h : c < 6) : fw_sd (vp_in ((7 : Int32) + 5 * nI c + 0) 517) := by rw [cx0]; exact fw_sd_i (n_in (by omega) (by decide))
theorem cx1 {c : Nat} : (7 : Int32) + 5 * nI c + 1 = nI (7 + 5 * c + 1) := ixC
theorem vC1 {c : Nat} (h : c < 6) : fw_sd (vp_in ((7 : Int32) + 5 * nI c + 1) 517) := by rw [cx1]; exact fw_sd_i (n_in (by omega) (by decide))
theorem cx2 {c : Nat} : (7 : Int32) + 5 * nI c + 2 = nI (7 + 5 * c + 2) := ixC
theorem vC2 {c : Nat} (h : c < 6) : fw_sd (vp_in ((7 : Int32) + 5 * nI c + 2) 517) := by rw [cx2]; exact fw_sd_i (n_in (by omega) (by decide))
theorem cx3 {c : Nat} : (7 : Int32) + 5 * nI c + 3 = nI (7 + 5 * c + 3) := ixC
theorem vC3 {c : Nat} (h : c < 6) : fw_sd (vp_in ((7 : Int32) + 5 * nI c + 3) 517) := by rw [cx3]; exact fw_sd_i (n_in (by omega) (by decide))
theorem cx4 {c : Nat} : (7 : Int32) + 5 * nI c + 4 = nI (7 + 5 * c + 4) := ixC
theorem vC4 {c : Nat} (h : c < 6) : fw_sd (vp_in ((7 : Int32) + 5 * nI c + 4) 517) := by rw [cx4]; exact fw_sd_i (n_in (by omega) (by decide))
theorem px0 {p : Nat} : (37 : Int32) + 20 * nI p + 0 = nI (37 + 20 * p + 0) := ixP
theorem vP0 {p : Nat} (h : p < 24) : fw_sd (vp_in ((37 : Int32) + 20 * nI p + 0) 517) := by rw [px0]; exact fw_sd_i (n_in (by omega) (by decide))
theorem px1 {p : Nat} : (37 : Int32) + 20 * nI p + 1 = nI (37 + 20 * p + 1) := ixP
theorem vP1 {p : Nat} (h : p < 24) : fw_sd (vp_in ((37 : Int32) + 20 * nI p + 1) 517) := by rw [px1]; exact fw_sd_i (n_in (by omega) (by decide))
theorem px2 {p : Nat} : (37 : Int32) + 20 * nI p + 2 = nI (37 + 20 * p + 2) := ixP
theorem vP2 {p : Nat} (h : p < 24) : fw_sd (vp_in ((37 : Int32) + 20 * nI p + 2) 517) := by rw [px2]; exact fw_sd_i (n_in (by omega) (by decide))
theorem px3 {p : Nat} : (37 : Int32) + 20 * nI p + 3 = nI (37 + 20 * p + 3) := ixP
theorem vP3 {p : Nat} (h : p < 24) : fw_sd (vp_in ((37 : Int32) + 20 * nI p + 3) 517) := by rw [px3]; exact fw_sd_i (n_in (by omega) (by decide))
theorem px4 {p : Nat} : (37 : Int32) + 20 * nI p + 4 = nI (37 + 20 * p + 4) := ixP
theorem vP4 {p : Nat} (h : p < 24) : fw_sd (vp_in ((37 : Int32) + 20 * nI p + 4) 517) := by rw [px4]; exact fw_sd_i (n_in (by omega) (by decide))
theorem px5 {p : Nat} : (37 : Int32) + 20 * nI p + 5 = nI (37 + 20 * p + 5) := ixP
theorem vP5 {p : Nat} (h : p < 24) : fw_sd (vp_in ((37 : Int32) + 20 * nI p + 5) 517) := by rw [px5]; exact fw_sd_i (n_in (by omega) (by decide))
theorem px6 {p : Nat} : (37 : Int32) + 20 * nI p + 6 = nI (37 + 20 * p + 6) := ixP
theorem vP6 {p : Nat} (h : p < 24) : fw_sd (vp_in ((37 : Int32) + 20 * nI p + 6) 517) := by rw [px6]; exact fw_sd_i (n_in (by omega) (by decide))
theorem px7 {p : Nat} : (37 : Int32) + 20 * nI p + 7 = nI (37 + 20 * p + 7) := ixP
theorem vP7 {p : Nat} (h : p < 24) : fw_sd (vp_in ((37 : Int32) + 20 * nI p + 7) 517) := by rw [px7]; exact fw_sd_i (n_in (by omega) (by decide))
theorem pxL {p c : Nat} : (37 : Int32) + 20 * nI p + (8 + nI c) = nI (37 + 20 * p + (8 + c)) := by
  rw [show (8 : Int32) = nI 8 from rfl, n_add]
  exact ixP
theorem vPL {p c : Nat} (h : p < 24) (h2 : c < 6) : fw_sd (vp_in ((37 : Int32) + 20 * nI p + (8 + nI c)) 517) := by rw [pxL]; exact fw_sd_i (n_in (by omega) (by decide))
theorem pxS {p c : Nat} : (37 : Int32) + 20 * nI p + (14 + nI c) = nI (37 + 20 * p + (14 + c)) := by
  rw [show (14 : Int32) = nI 14 from rfl, n_add]
  exact ixP
theorem vPS {p c : Nat} (h : p < 24) (h2 : c < 6) : fw_sd (vp_in ((37 : Int32) + 20 * nI p + (14 + nI c)) 517) := by rw [pxS]; exact fw_sd_i (n_in (by omega) (by decide))
theorem vn_493 {B i : Nat} (h : i < 517) : fw_sd (vp_in (nI i) (fw_len B (B + 493))) := by rw [ln_493]; exact fw_sd_i (n_in h (by decide))
theorem vn_i {i n : Nat} (h : i < n) (hn : n < 2 ^ 31) : fw_sd (vp_in (nI i) n) := fw_sd_i (n_in h hn)
theorem vnl_493 {B : Nat} {x : Int32} (h : (decide (x < 0) || decide (517 ≤ x.toNatClampNeg)) = false) : fw_sd (vp_in x (fw_len B (B + 493))) := by
  rw [ln_493]
  refine fw_sd_i (fun z => ?_)
  simp only [Bool.or_eq_false_iff, decide_eq_false_iff_not] at h
  exact z.elim h.1 h.2
theorem cl0 : (0 : Int32).toNatClampNeg = 0 := by decide
theorem cl1 : (1 : Int32).toNatClampNeg = 1 := by decide
theorem cl2 : (2 : Int32).toNatClampNeg = 2 := by decide
theorem cl3 : (3 : Int32).toNatClampNeg = 3 := by decide
theorem cl4 : (4 : Int32).toNatClampNeg = 4 := by decide
theorem cl5 : (5 : Int32).toNatClampNeg = 5 := by decide
theorem cl6 : (6 : Int32).toNatClampNeg = 6 := by decide
theorem cl7 : (7 : Int32).toNatClampNeg = 7 := by decide
theorem cl8 : (8 : Int32).toNatClampNeg = 8 := by decide
theorem cl9 : (9 : Int32).toNatClampNeg = 9 := by decide
theorem cl10 : (10 : Int32).toNatClampNeg = 10 := by decide
theorem b493 {B : Nat} : B + 492 + 1 = B + 493 := rfl
theorem b494 {B : Nat} : B + 492 + 2 = B + 494 := rfl
theorem b495 {B : Nat} : B + 492 + 3 = B + 495 := rfl
theorem b496 {B : Nat} : B + 492 + 4 = B + 496 := rfl
theorem b497 {B : Nat} : B + 492 + 5 = B + 497 := rfl
theorem n_sub4 (j : Nat) : nI (j + 4) - (4 : Int32) = nI j := by
  rw [show (4 : Int32) = nI 4 from rfl, pk_sub (by omega), Nat.add_sub_cancel]
end B2
end
section
/-! WHAT A STATE IS, AND WHAT IS DONE TO IT: one row of 517 ints (time, grace, couriers, parcels, handovers, moves, paid; six couriers of five; 24 parcels of twenty), as the reference holds it -/
section SP
abbrev Sx : Type := Nat → Int32
def sC (S : Sx) (c w : Nat) : Int32 := S (7 + 5 * c + w)
def sP (S : Sx) (p w : Nat) : Int32 := S (37 + 20 * p + w)
def uC (S : Sx) (c w : Nat) (v : Int32) : Sx := upd S (7 + 5 * c + w) v
def uP (S : Sx) (p w : Nat) (v : Int32) : Sx := upd S (37 + 20 * p + w) v
def cn (S : Sx) : Nat := (S 2).toNatClampNeg
def pn (S : Sx) : Nat := (S 3).toNatClampNeg
def rem4 (x : Int32) : Int32 := x - x / 4 * 4
def nxz (f t : Int32) : Int32 := if rem4 f = rem4 t then (if f < t then f + 4 else if t < f then f - 4 else f) else if rem4 f < rem4 t then f + 1 else f - 1
def hs (a z : Int32) : Bool := decide ((a >>> (z &&& 31)) &&& 1 = 1)
def frS (S : Sx) (c : Nat) : Sx := uC (uC S c 3 0) c 4 (-1)
def suit (S : Sx) (p c : Nat) : Bool := hs (sC S c 0) (sP S p 5) && hs (sC S c 0) (nxz (sP S p 5) (sP S p 1))
def lsum (S : Sx) (p : Nat) : Nat → Int32
  | 0 => 0
  | c + 1 => lsum S p c + sP S p (8 + c)
/-- the share by division, what is left by it, who comes before, what remains after the shares of the first ones -/
def shq (S : Sx) (p : Nat) (paid : Int32) (c : Nat) : Int32 := paid * sP S p (8 + c) / lsum S p 6
def shr (S : Sx) (p : Nat) (paid : Int32) (c : Nat) : Int32 := paid * sP S p (8 + c) - paid * sP S p (8 + c) / lsum S p 6 * lsum S p 6
def rnk (S : Sx) (p : Nat) (paid : Int32) (c : Nat) : Nat → Nat
  | 0 => 0
  | d + 1 => rnk S p paid c d + (if shr S p paid c < shr S p paid d ∨ (shr S p paid d = shr S p paid c ∧ d < c) then 1 else 0)
def rst (S : Sx) (p : Nat) (paid : Int32) : Nat → Int32
  | 0 => paid
  | c + 1 => rst S p paid c - shq S p paid c
def fsh (S : Sx) (p : Nat) (paid : Int32) (c : Nat) : Int32 := if nI (rnk S p paid c 6) < rst S p paid 6 then shq S p paid c + 1 else shq S p paid c
def shW (S : Sx) (p : Nat) (paid : Int32) : Nat → Sx
  | 0 => S
  | c + 1 => uP (shW S p paid c) p (14 + c) (fsh S p paid c)
def tipW (S : Sx) (p : Nat) : Nat → Sx
  | 0 => S
  | c + 1 => uC (tipW S p c) c 2 (sC (tipW S p c) c 2 + sP (tipW S p c) p (14 + c))
def shareS (S : Sx) (p : Nat) (paid : Int32) : Sx := tipW (shW S p paid 6) p (cn S)
def payS (S : Sx) (p : Nat) : Int32 := if S 0 ≤ sP S p 2 then sP S p 3 else sP S p 3 / 2
def delS (S : Sx) (c p : Nat) : Sx :=
  frS (shareS (upd (uP (uP (uP S p 4 2) p 6 (S 0)) p 7 (payS S p)) 6 (S 6 + payS S p)) p (payS S p)) c
/-- a leg: the courier and the parcel move on -/
def legS (S : Sx) (c p : Nat) (z : Int32) : Sx := uP (uP (upd (uC S c 1 z) 5 (S 5 + 1)) p 5 z) p (8 + c) (sP S p (8 + c) + 1)
def carS (S : Sx) (c p : Nat) : Sx :=
  if hs (sC S c 0) (nxz (sC S c 1) (sP S p 1)) = true then
    (if nxz (sC S c 1) (sP S p 1) = sP S p 1 then delS (legS S c p (nxz (sC S c 1) (sP S p 1))) c p else legS S c p (nxz (sC S c 1) (sP S p 1)))
  else frS (upd (uP S p 4 0) 4 (S 4 + 1)) c
def goS (S : Sx) (c p : Nat) : Sx :=
  if sC S c 1 = sP S p 5 then uP (uC S c 3 2) p 4 1 else upd (uC S c 1 (nxz (sC S c 1) (sP S p 5))) 5 (S 5 + 1)
def asked (S : Sx) (p c : Nat) : Nat → Bool
  | 0 => false
  | o + 1 => asked S p c o || (decide (o ≠ c) && decide (sC S o 3 = 1) && decide (sC S o 4 = nI p))
def may (S : Sx) (c p : Nat) : Bool := decide (sP S p 4 = 0) && suit S p c && !(asked S p c (cn S))
def chB (S : Sx) (c : Nat) : Nat → Int32
  | 0 => -1
  | p + 1 => if may S c p = true ∧ (chB S c p = -1 ∨ sP S p 2 < sP S (chB S c p).toNatClampNeg 2) then nI p else chB S c p
def chS (S : Sx) (c : Nat) : Sx := uC (uC S c 3 (if chB S c (pn S) = -1 then 0 else 1)) c 4 (chB S c (pn S))
def frW (S : Sx) (p : Nat) : Nat → Sx
  | 0 => S
  | c + 1 => if sC (frW S p c) c 4 = nI p then frS (frW S p c) c else frW S p c
def faiS (S : Sx) (p : Nat) : Sx := frW (uP S p 4 3) p (cn S)
def actS (S : Sx) (c : Nat) : Sx :=
  if sC S c 3 = 2 then carS S c (sC S c 4).toNatClampNeg
  else if sC S c 3 = 1 ∧ sP S (sC S c 4).toNatClampNeg 4 = 0 then goS S c (sC S c 4).toNatClampNeg
  else chS S c
def actW (S : Sx) : Nat → Sx
  | 0 => S
  | c + 1 => actS (actW S c) c
def flW (S : Sx) : Nat → Sx
  | 0 => S
  | p + 1 => if sP (flW S p) p 4 < 2 ∧ sP (flW S p) p 2 + (flW S p) 1 < (flW S p) 0 then faiS (flW S p) p else flW S p
def tkA (S : Sx) : Sx := actW (upd S 0 (S 0 + 1)) (cn S)
def tickS (S : Sx) : Sx := flW (tkA S) (pn S)
def tkN (S : Sx) : Nat → Sx
  | 0 => S
  | n + 1 => tickS (tkN S n)
/-- what holds of every state: the counts, the couriers, who carries what, the parcels; t: a bound of the legs -/
def WFc (S : Sx) (c : Nat) : Prop := (∃ z, z < 16 ∧ sC S c 1 = nI z) ∧ ((sC S c 3 = 0 ∧ sC S c 4 = -1) ∨ ∃ p, p < pn S ∧ sC S c 4 = nI p ∧ (sC S c 3 = 1 ∨ (sC S c 3 = 2 ∧ sP S p 4 = 1)))
def WFp (t : Nat) (S : Sx) (p : Nat) : Prop := (∃ o d, o < 16 ∧ d < 16 ∧ o ≠ d ∧ sP S p 0 = nI o ∧ sP S p 1 = nI d) ∧ (∃ k, 1 ≤ k ∧ k ≤ 999 ∧ sP S p 2 = nI k) ∧ (∃ k, k ≤ 1000 ∧ sP S p 3 = nI k) ∧ (∃ k, k ≤ 3 ∧ sP S p 4 = nI k) ∧ (∃ z, z < 16 ∧ sP S p 5 = nI z) ∧ ∀ c, c < 6 → ∃ k, k ≤ t ∧ sP S p (8 + c) = nI k
def WF (t : Nat) (S : Sx) : Prop := S 2 = nI (cn S) ∧ cn S ≤ 6 ∧ S 3 = nI (pn S) ∧ pn S ≤ 24 ∧ (∀ c, c < cn S → WFc S c) ∧ (∀ c d, c < cn S → d < cn S → sC S c 3 = 2 → sC S d 3 = 2 → sC S c 4 = sC S d 4 → c = d) ∧ ∀ p, p < pn S → WFp t S p
end SP
end
section
/-! WHAT THE REFERENCE'S METHODS DO (to the tick) -/
section CM
/-- the reference's state, and the memory with another one -/
abbrev mS (B : Nat) (M : fw_M) : Sx := M.1 (B + 493)
abbrev mK (B : Nat) (M : fw_M) (S : Sx) : fw_M := fw_row M (B + 493) S
theorem mS_K {B : Nat} {M : fw_M} {S : Sx} : mS B (mK B M S) = S := row_1
theorem mK_K {B : Nat} {M : fw_M} {S S' : Sx} : mK B (mK B M S) S' = mK B M S' := row_row
theorem mK_S {B : Nat} {M : fw_M} : mK B M (mS B M) = M := row_self
def ct_X6_thrown (B : Nat) : fw_CTX := fun as M Q _ => match as with
  | [.ref a] => a = B + 492 ∧ Q (some (.int (M.1 (B + 492) 7))) M
  | _ => False
def ct_X6_in (B : Nat) : fw_CTX := fun as M Q _ => match as with
  | [.int v, .int x, .int y] => Q (some (.int (bi (decide (x ≤ v) && decide (v ≤ y))))) M
  | _ => False
def ct_X6_fails (B : Nat) : fw_CTX := fun as M Q _ => match as with
  | [.ref a, .int v] => a = B + 492 ∧ Q (some (.int 0)) (fw_st M (B + 492) 7 v)
  | _ => False
def ct_X6_tells (B : Nat) : fw_CTX := fun as M Q _ => match as with
  | [.ref a, .int v] => a = B + 492 ∧ Q (some (.int v)) (fw_st M (B + 492) 7 0)
  | _ => False
def ct_X6_copies (B : Nat) : fw_CTX := fun as M Q _ => match as with
  | [.ref a, .ref b] => fw_kd B a = 7 ∧ fw_kd B b = 7 ∧ fw_len B a = 517 ∧ fw_len B b = 517 ∧ a ≠ b ∧ Q none (fw_row M a (cpN 517 (M.1 b) (M.1 a)))
  | _ => False
def ct_X6_hold (B : Nat) : fw_CTX := fun as M Q _ => match as with
  | [.ref a] => a = B + 492 ∧ Q none (fw_row M (B + 495) (cpN 517 (mS B M) (M.1 (B + 495))))
  | _ => False
def ct_X6_isCourier (B : Nat) : fw_CTX := fun as M Q _ => match as with
  | [.ref a, .int c] => a = B + 492 ∧ Q (some (.int (bi (decide (0 ≤ c) && decide (c ≤ mS B M 2 - 1))))) M
  | _ => False
def ct_X6_isParcel (B : Nat) : fw_CTX := fun as M Q _ => match as with
  | [.ref a, .int c] => a = B + 492 ∧ Q (some (.int (bi (decide (0 ≤ c) && decide (c ≤ mS B M 3 - 1))))) M
  | _ => False
def ct_X6_isZone (B : Nat) : fw_CTX := fun as M Q _ => match as with
  | [.int v] => Q (some (.int (bi (decide (0 ≤ v) && decide (v ≤ 15))))) M
  | _ => False
def ct_X6_isArea (B : Nat) : fw_CTX := fun as M Q _ => match as with
  | [.int v] => Q (some (.int (bi (decide (0 ≤ v) && decide (v ≤ 65535))))) M
  | _ => False
def ct_X6_isMany (B : Nat) : fw_CTX := fun as M Q _ => match as with
  | [.int v] => Q (some (.int (bi (decide (0 ≤ v) && decide (v ≤ 200))))) M
  | _ => False
def ct_X6_of (B : Nat) : fw_CTX := fun as M Q _ => match as with
  | [.ref a, .int c, .int w] => a = B + 492 ∧ fw_sd (vp_in (7 + 5 * c + w) 517) ∧ Q (some (.int (mS B M (7 + 5 * c + w).toNatClampNeg))) M
  | _ => False
def ct_X6_sets (B : Nat) : fw_CTX := fun as M Q _ => match as with
  | [.ref a, .int c, .int w, .int v] => a = B + 492 ∧ fw_sd (vp_in (7 + 5 * c + w) 517) ∧ Q none (mK B M (upd (mS B M) (7 + 5 * c + w).toNatClampNeg v))
  | _ => False
def ct_X6_its (B : Nat) : fw_CTX := fun as M Q _ => match as with
  | [.ref a, .int c, .int w] => a = B + 492 ∧ fw_sd (vp_in (37 + 20 * c + w) 517) ∧ Q (some (.int (mS B M (37 + 20 * c + w).toNatClampNeg))) M
  | _ => False
def ct_X6_puts (B : Nat) : fw_CTX := fun as M Q _ => match as with
  | [.ref a, .int c, .int w, .int v] => a = B + 492 ∧ fw_sd (vp_in (37 + 20 * c + w) 517) ∧ Q none (mK B M (upd (mS B M) (37 + 20 * c + w).toNatClampNeg v))
  | _ => False
def ct_X6_isIn (B : Nat) : fw_CTX := fun as M Q _ => match as with
  | [.ref a, .int x, .int z] => a = B + 492 ∧ ∃ c, c < 6 ∧ x = nI c ∧ Q (some (.int (bi (hs (sC (mS B M) c 0) z)))) M
  | _ => False
def ct_X6_next (B : Nat) : fw_CTX := fun as M Q _ => match as with
  | [.int f, .int t] => Q (some (.int (nxz f t))) M
  | _ => False
def ct_X6_frees (B : Nat) : fw_CTX := fun as M Q _ => match as with
  | [.ref a, .int x] => a = B + 492 ∧ ∃ c, c < 6 ∧ x = nI c ∧ Q none (mK B M (frS (mS B M) c))
  | _ => False
def ct_X6_suits (B : Nat) : fw_CTX := fun as M Q _ => match as with
  | [.ref a, .int y, .int x] => a = B + 492 ∧ ∃ p c, p < 24 ∧ c < 6 ∧ y = nI p ∧ x = nI c ∧ Q (some (.int (bi (suit (mS B M) p c)))) M
  | _ => False
def ct_X6_legsOf (B : Nat) : fw_CTX := fun as M Q _ => match as with
  | [.ref a, .int y] => a = B + 492 ∧ ∃ p, p < 24 ∧ y = nI p ∧ Q (some (.int (lsum (mS B M) p 6))) M
  | _ => False
/-- the legs of a parcel as numbers: bounded, and some -/
def LG (S : Sx) (p : Nat) : Prop := ∃ L : Nat → Nat, (∀ c, c < 6 → L c ≤ 100000 ∧ sP S p (8 + c) = nI (L c)) ∧ ∃ c, c < 6 ∧ 0 < L c
def ct_X6_shares (B : Nat) : fw_CTX := fun as M Q _ => match as with
  | [.ref a, .int y, .int m] => a = B + 492 ∧ ∃ p k, p < 24 ∧ k ≤ 1000 ∧ y = nI p ∧ m = nI k ∧ LG (mS B M) p ∧ mS B M 2 = nI (cn (mS B M)) ∧ cn (mS B M) ≤ 6 ∧ Q none (mK B M (shareS (mS B M) p m))
  | _ => False
def ct_X6_delivers (B : Nat) : fw_CTX := fun as M Q _ => match as with
  | [.ref a, .int x, .int y] => a = B + 492 ∧ ∃ c p, c < 6 ∧ p < 24 ∧ x = nI c ∧ y = nI p ∧ LG (mS B M) p ∧ mS B M 2 = nI (cn (mS B M)) ∧ cn (mS B M) ≤ 6 ∧ (∃ k, k ≤ 1000 ∧ sP (mS B M) p 3 = nI k) ∧ Q none (mK B M (delS (mS B M) c p))
  | _ => False
def ct_X6_carries (B : Nat) : fw_CTX := fun as M Q _ => match as with
  | [.ref a, .int x, .int y] => a = B + 492 ∧ ∃ t c p, t < 50000 ∧ WF t (mS B M) ∧ c < cn (mS B M) ∧ p < pn (mS B M) ∧ x = nI c ∧ y = nI p ∧ Q none (mK B M (carS (mS B M) c p))
  | _ => False
def ct_X6_goes (B : Nat) : fw_CTX := fun as M Q _ => match as with
  | [.ref a, .int x, .int y] => a = B + 492 ∧ ∃ c p, c < 6 ∧ p < 24 ∧ x = nI c ∧ y = nI p ∧ Q none (mK B M (goS (mS B M) c p))
  | _ => False
def ct_X6_isAsked (B : Nat) : fw_CTX := fun as M Q _ => match as with
  | [.ref a, .int y, .int x] => a = B + 492 ∧ ∃ p c, p < 24 ∧ c < 6 ∧ y = nI p ∧ x = nI c ∧ mS B M 2 = nI (cn (mS B M)) ∧ cn (mS B M) ≤ 6 ∧ Q (some (.int (bi (asked (mS B M) p c (cn (mS B M)))))) M
  | _ => False
def ct_X6_chooses (B : Nat) : fw_CTX := fun as M Q _ => match as with
  | [.ref a, .int x] => a = B + 492 ∧ ∃ c, c < 6 ∧ x = nI c ∧ mS B M 2 = nI (cn (mS B M)) ∧ cn (mS B M) ≤ 6 ∧ mS B M 3 = nI (pn (mS B M)) ∧ pn (mS B M) ≤ 24 ∧ Q none (mK B M (chS (mS B M) c))
  | _ => False
def ct_X6_failsOf (B : Nat) : fw_CTX := fun as M Q _ => match as with
  | [.ref a, .int y] => a = B + 492 ∧ ∃ p, p < 24 ∧ y = nI p ∧ mS B M 2 = nI (cn (mS B M)) ∧ cn (mS B M) ≤ 6 ∧ Q none (mK B M (faiS (mS B M) p))
  | _ => False
def ct_X6_tick (B : Nat) : fw_CTX := fun as M Q _ => match as with
  | [.ref a] => a = B + 492 ∧ ∃ t, t < 40000 ∧ WF t (mS B M) ∧ Q none (mK B M (tickS (mS B M)))
  | _ => False
def ct_X6_ticks (B : Nat) : fw_CTX := fun as M Q _ => match as with
  | [.ref a, .int x] => a = B + 492 ∧ ∃ t n, t + 6 * n ≤ 40000 ∧ x = nI n ∧ WF t (mS B M) ∧ Q none (mK B M (tkN (mS B M) n))
  | _ => False
end CM
end
section
/-! the callees of each method (printed by program) -/
def cal_X6_thrown (B : Nat) : List fw_Cal := []
def cal_X6_in (B : Nat) : List fw_Cal := []
def cal_X6_fails (B : Nat) : List fw_Cal := []
def cal_X6_tells (B : Nat) : List fw_Cal := []
def cal_X6_copies (B : Nat) : List fw_Cal := []
def cal_X6_hold (B : Nat) : List fw_Cal := [(29, 1, 0, 2, 0, fun as M Q => ct_X6_copies B as M Q (fun _ _ => False))]
def cal_X6_isCourier (B : Nat) : List fw_Cal := [(40, 1, 0, 3, 0, fun as M Q => ct_X6_in B as M Q (fun _ _ => False))]
def cal_X6_isParcel (B : Nat) : List fw_Cal := [(40, 1, 0, 3, 0, fun as M Q => ct_X6_in B as M Q (fun _ _ => False))]
def cal_X6_isZone (B : Nat) : List fw_Cal := [(40, 1, 0, 3, 0, fun as M Q => ct_X6_in B as M Q (fun _ _ => False))]
def cal_X6_isArea (B : Nat) : List fw_Cal := [(40, 1, 0, 3, 0, fun as M Q => ct_X6_in B as M Q (fun _ _ => False))]
def cal_X6_isMany (B : Nat) : List fw_Cal := [(40, 1, 0, 3, 0, fun as M Q => ct_X6_in B as M Q (fun _ _ => False))]
def cal_X6_of (B : Nat) : List fw_Cal := []
def cal_X6_sets (B : Nat) : List fw_Cal := []
def cal_X6_its (B : Nat) : List fw_Cal := []
def cal_X6_puts (B : Nat) : List fw_Cal := []
def cal_X6_isIn (B : Nat) : List fw_Cal := [(44, 0, 6, 3, 0, fun as M Q => ct_X6_of B as M Q (fun _ _ => False))]
def cal_X6_next (B : Nat) : List fw_Cal := []
def cal_X6_frees (B : Nat) : List fw_Cal := [(48, 0, 6, 4, 0, fun as M Q => ct_X6_sets B as M Q (fun _ _ => False))]
def cal_X6_suits (B : Nat) : List fw_Cal := [(52, 0, 6, 3, 0, fun as M Q => ct_X6_its B as M Q (fun _ _ => False)),
  (55, 0, 6, 3, 0, fun as M Q => ct_X6_isIn B as M Q (fun _ _ => False)),
  (59, 1, 0, 2, 0, fun as M Q => ct_X6_next B as M Q (fun _ _ => False))]
def cal_X6_legsOf (B : Nat) : List fw_Cal := [(52, 0, 6, 3, 0, fun as M Q => ct_X6_its B as M Q (fun _ _ => False))]
def cal_X6_shares (B : Nat) : List fw_Cal := [(62, 0, 6, 2, 0, fun as M Q => ct_X6_legsOf B as M Q (fun _ _ => False)),
  (52, 0, 6, 3, 0, fun as M Q => ct_X6_its B as M Q (fun _ _ => False)),
  (65, 0, 6, 4, 0, fun as M Q => ct_X6_puts B as M Q (fun _ _ => False)),
  (44, 0, 6, 3, 0, fun as M Q => ct_X6_of B as M Q (fun _ _ => False)),
  (48, 0, 6, 4, 0, fun as M Q => ct_X6_sets B as M Q (fun _ _ => False))]
def cal_X6_delivers (B : Nat) : List fw_Cal := [(52, 0, 6, 3, 0, fun as M Q => ct_X6_its B as M Q (fun _ _ => False)),
  (65, 0, 6, 4, 0, fun as M Q => ct_X6_puts B as M Q (fun _ _ => False)),
  (68, 0, 6, 3, 0, fun as M Q => ct_X6_shares B as M Q (fun _ _ => False)),
  (72, 0, 6, 2, 0, fun as M Q => ct_X6_frees B as M Q (fun _ _ => False))]
def cal_X6_carries (B : Nat) : List fw_Cal := [(44, 0, 6, 3, 0, fun as M Q => ct_X6_of B as M Q (fun _ _ => False)),
  (52, 0, 6, 3, 0, fun as M Q => ct_X6_its B as M Q (fun _ _ => False)),
  (59, 1, 0, 2, 0, fun as M Q => ct_X6_next B as M Q (fun _ _ => False)),
  (55, 0, 6, 3, 0, fun as M Q => ct_X6_isIn B as M Q (fun _ _ => False)),
  (65, 0, 6, 4, 0, fun as M Q => ct_X6_puts B as M Q (fun _ _ => False)),
  (72, 0, 6, 2, 0, fun as M Q => ct_X6_frees B as M Q (fun _ _ => False)),
  (48, 0, 6, 4, 0, fun as M Q => ct_X6_sets B as M Q (fun _ _ => False)),
  (76, 0, 6, 3, 0, fun as M Q => ct_X6_delivers B as M Q (fun _ _ => False))]
def cal_X6_goes (B : Nat) : List fw_Cal := [(44, 0, 6, 3, 0, fun as M Q => ct_X6_of B as M Q (fun _ _ => False)),
  (52, 0, 6, 3, 0, fun as M Q => ct_X6_its B as M Q (fun _ _ => False)),
  (48, 0, 6, 4, 0, fun as M Q => ct_X6_sets B as M Q (fun _ _ => False)),
  (65, 0, 6, 4, 0, fun as M Q => ct_X6_puts B as M Q (fun _ _ => False)),
  (59, 1, 0, 2, 0, fun as M Q => ct_X6_next B as M Q (fun _ _ => False))]
def cal_X6_isAsked (B : Nat) : List fw_Cal := [(44, 0, 6, 3, 0, fun as M Q => ct_X6_of B as M Q (fun _ _ => False))]
def cal_X6_chooses (B : Nat) : List fw_Cal := [(52, 0, 6, 3, 0, fun as M Q => ct_X6_its B as M Q (fun _ _ => False)),
  (79, 0, 6, 3, 0, fun as M Q => ct_X6_suits B as M Q (fun _ _ => False)),
  (82, 0, 6, 3, 0, fun as M Q => ct_X6_isAsked B as M Q (fun _ _ => False)),
  (48, 0, 6, 4, 0, fun as M Q => ct_X6_sets B as M Q (fun _ _ => False))]
def cal_X6_failsOf (B : Nat) : List fw_Cal := [(65, 0, 6, 4, 0, fun as M Q => ct_X6_puts B as M Q (fun _ _ => False)),
  (44, 0, 6, 3, 0, fun as M Q => ct_X6_of B as M Q (fun _ _ => False)),
  (72, 0, 6, 2, 0, fun as M Q => ct_X6_frees B as M Q (fun _ _ => False))]
def cal_X6_tick (B : Nat) : List fw_Cal := [(44, 0, 6, 3, 0, fun as M Q => ct_X6_of B as M Q (fun _ _ => False)),
  (85, 0, 6, 3, 0, fun as M Q => ct_X6_carries B as M Q (fun _ _ => False)),
  (52, 0, 6, 3, 0, fun as M Q => ct_X6_its B as M Q (fun _ _ => False)),
  (88, 0, 6, 3, 0, fun as M Q => ct_X6_goes B as M Q (fun _ _ => False)),
  (91, 0, 6, 2, 0, fun as M Q => ct_X6_chooses B as M Q (fun _ _ => False)),
  (94, 0, 6, 2, 0, fun as M Q => ct_X6_failsOf B as M Q (fun _ _ => False))]
def cal_X6_ticks (B : Nat) : List fw_Cal := [(97, 0, 6, 1, 0, fun as M Q => ct_X6_tick B as M Q (fun _ _ => False))]
end
section
/-! THE REFERENCE'S METHODS WALKED: the small ones -/
section WM
theorem wk_X6_thrown (B : Nat) : fw_Wk B fl_X6 (cal_X6_thrown B) [] cst_X6 (some .int) kX6_thrown 1 (ct_X6_thrown B) := by
  intro as M Q QX h
  unfold ct_X6_thrown at h
  split at h
  · obtain ⟨rfl, h⟩ := h
    exact ⟨rfl, [], ⟨20, And.intro kd_492 h⟩, nofun⟩
  · exact h.elim
theorem wk_X6_in (B : Nat) : fw_Wk B fl_X6 (cal_X6_in B) [] cst_X6 (some .boolean) kX6_in 3 (ct_X6_in B) := by
  intro as M Q QX h
  unfold ct_X6_in at h
  split at h
  · rename_i v x y
    refine ⟨rfl, [], ⟨30, And.intro (fun h1 => And.intro (Or.inl rfl) ?_) (fun h1 => And.intro (fun h2 => And.intro (Or.inl rfl) ?_) (fun h2 => And.intro (Or.inr rfl) ?_))⟩, nofun⟩
    · rw [decide_eq_false (Int32.not_le.mpr h1)] at h
      exact h
    · rw [decide_eq_false (Int32.not_le.mpr h2), Bool.and_false] at h
      exact h
    · rw [decide_eq_true (Int32.not_lt.mp h1), decide_eq_true (Int32.not_lt.mp h2)] at h
      exact h
  · exact h.elim
theorem wk_X6_fails (B : Nat) : fw_Wk B fl_X6 (cal_X6_fails B) [] cst_X6 (some .int) kX6_fails 2 (ct_X6_fails B) := by
  intro as M Q QX h
  unfold ct_X6_fails at h
  split at h
  · obtain ⟨rfl, h⟩ := h
    exact ⟨rfl, [], ⟨20, And.intro kd_492 h⟩, nofun⟩
  · exact h.elim
theorem wk_X6_tells (B : Nat) : fw_Wk B fl_X6 (cal_X6_tells B) [] cst_X6 (some .int) kX6_tells 2 (ct_X6_tells B) := by
  intro as M Q QX h
  unfold ct_X6_tells at h
  split at h
  · obtain ⟨rfl, h⟩ := h
    exact ⟨rfl, [], ⟨20, And.intro kd_492 h⟩, nofun⟩
  · exact h.elim
theorem wk_X6_of (B : Nat) : fw_Wk B fl_X6 (cal_X6_of B) [] cst_X6 (some .int) kX6_of 3 (ct_X6_of B) := by
  intro as M Q QX h
  unfold ct_X6_of at h
  split at h
  · obtain ⟨rfl, h1, h⟩ := h
    exact ⟨rfl, [], ⟨20, And.intro kd_492 (And.intro kd_493 (And.intro (by rw [show B + 492 + 1 = B + 493 from rfl, ln_493]; exact h1) h))⟩, nofun⟩
  · exact h.elim
theorem wk_X6_its (B : Nat) : fw_Wk B fl_X6 (cal_X6_its B) [] cst_X6 (some .int) kX6_its 3 (ct_X6_its B) := by
  intro as M Q QX h
  unfold ct_X6_its at h
  split at h
  · obtain ⟨rfl, h1, h⟩ := h
    exact ⟨rfl, [], ⟨20, And.intro kd_492 (And.intro kd_493 (And.intro (by rw [show B + 492 + 1 = B + 493 from rfl, ln_493]; exact h1) h))⟩, nofun⟩
  · exact h.elim
theorem wk_X6_sets (B : Nat) : fw_Wk B fl_X6 (cal_X6_sets B) [] cst_X6 none kX6_sets 4 (ct_X6_sets B) := by
  intro as M Q QX h
  unfold ct_X6_sets at h
  split at h
  · obtain ⟨rfl, h1, h⟩ := h
    exact ⟨rfl, [], ⟨20, And.intro kd_492 (And.intro kd_493 (And.intro (by rw [show B + 492 + 1 = B + 493 from rfl, ln_493]; exact h1) h))⟩, nofun⟩
  · exact h.elim
theorem wk_X6_puts (B : Nat) : fw_Wk B fl_X6 (cal_X6_puts B) [] cst_X6 none kX6_puts 4 (ct_X6_puts B) := by
  intro as M Q QX h
  unfold ct_X6_puts at h
  split at h
  · obtain ⟨rfl, h1, h⟩ := h
    exact ⟨rfl, [], ⟨20, And.intro kd_492 (And.intro kd_493 (And.intro (by rw [show B + 492 + 1 = B + 493 from rfl, ln_493]; exact h1) h))⟩, nofun⟩
  · exact h.elim
end WM
end
section
/-! THE REFERENCE'S METHODS WALKED: couriers and parcels -/
section WN
set_option maxRecDepth 100000 in
theorem wk_X6_isCourier (B : Nat) : fw_Wk B fl_X6 (cal_X6_isCourier B) [] cst_X6 (some .boolean) kX6_isCourier 2 (ct_X6_isCourier B) := by
  intro as M Q QX h
  unfold ct_X6_isCourier at h
  split at h
  · obtain ⟨rfl, h⟩ := h
    refine ⟨rfl, [], ⟨200, ?_⟩, nofun⟩
    repeat' first
      | refine And.intro ?_ ?_
      | intro _
      | exact kd_492
      | exact kd_493
      | exact rfl
      | exact bi_01
      | exact vnl_493 (by decide)
      | (simp (disch := omega) only [cx0, cx1, cx2, cx3, cx4, px0, px1, px2, px3, px4, px5, px6, px7, pxL, pxS, n_cl, cl0, cl1, cl2, cl3, cl4, cl5, cl6, b493, b494, b495, b496, b497]; exact vn_i (by omega) (by decide))
      | exact Or.inl rfl
      | exact Or.inr rfl
    exact h
  · exact h.elim
set_option maxRecDepth 100000 in
theorem wk_X6_isParcel (B : Nat) : fw_Wk B fl_X6 (cal_X6_isParcel B) [] cst_X6 (some .boolean) kX6_isParcel 2 (ct_X6_isParcel B) := by
  intro as M Q QX h
  unfold ct_X6_isParcel at h
  split at h
  · obtain ⟨rfl, h⟩ := h
    refine ⟨rfl, [], ⟨200, ?_⟩, nofun⟩
    repeat' first
      | refine And.intro ?_ ?_
      | intro _
      | exact kd_492
      | exact kd_493
      | exact rfl
      | exact bi_01
      | exact vnl_493 (by decide)
      | (simp (disch := omega) only [cx0, cx1, cx2, cx3, cx4, px0, px1, px2, px3, px4, px5, px6, px7, pxL, pxS, n_cl, cl0, cl1, cl2, cl3, cl4, cl5, cl6, b493, b494, b495, b496, b497]; exact vn_i (by omega) (by decide))
      | exact Or.inl rfl
      | exact Or.inr rfl
    exact h
  · exact h.elim
set_option maxRecDepth 100000 in
theorem wk_X6_isZone (B : Nat) : fw_Wk B fl_X6 (cal_X6_isZone B) [] cst_X6 (some .boolean) kX6_isZone 1 (ct_X6_isZone B) := by
  intro as M Q QX h
  unfold ct_X6_isZone at h
  split at h
  · refine ⟨rfl, [], ⟨200, ?_⟩, nofun⟩
    repeat' first
      | refine And.intro ?_ ?_
      | intro _
      | exact kd_492
      | exact kd_493
      | exact rfl
      | exact bi_01
      | exact vnl_493 (by decide)
      | (simp (disch := omega) only [cx0, cx1, cx2, cx3, cx4, px0, px1, px2, px3, px4, px5, px6, px7, pxL, pxS, n_cl, cl0, cl1, cl2, cl3, cl4, cl5, cl6, b493, b494, b495, b496, b497]; exact vn_i (by omega) (by decide))
      | exact Or.inl rfl
      | exact Or.inr rfl
    exact h
  · exact h.elim
set_option maxRecDepth 100000 in
theorem wk_X6_isArea (B : Nat) : fw_Wk B fl_X6 (cal_X6_isArea B) [] cst_X6 (some .boolean) kX6_isArea 1 (ct_X6_isArea B) := by
  intro as M Q QX h
  unfold ct_X6_isArea at h
  split at h
  · refine ⟨rfl, [], ⟨200, ?_⟩, nofun⟩
    repeat' first
      | refine And.intro ?_ ?_
      | intro _
      | exact kd_492
      | exact kd_493
      | exact rfl
      | exact bi_01
      | exact vnl_493 (by decide)
      | (simp (disch := omega) only [cx0, cx1, cx2, cx3, cx4, px0, px1, px2, px3, px4, px5, px6, px7, pxL, pxS, n_cl, cl0, cl1, cl2, cl3, cl4, cl5, cl6, b493, b494, b495, b496, b497]; exact vn_i (by omega) (by decide))
      | exact Or.inl rfl
      | exact Or.inr rfl
    exact h
  · exact h.elim
set_option maxRecDepth 100000 in
theorem wk_X6_isMany (B : Nat) : fw_Wk B fl_X6 (cal_X6_isMany B) [] cst_X6 (some .boolean) kX6_isMany 1 (ct_X6_isMany B) := by
  intro as M Q QX h
  unfold ct_X6_isMany at h
  split at h
  · refine ⟨rfl, [], ⟨200, ?_⟩, nofun⟩
    repeat' first
      | refine And.intro ?_ ?_
      | intro _
      | exact kd_492
      | exact kd_493
      | exact rfl
      | exact bi_01
      | exact vnl_493 (by decide)
      | (simp (disch := omega) only [cx0, cx1, cx2, cx3, cx4, px0, px1, px2, px3, px4, px5, px6, px7, pxL, pxS, n_cl, cl0, cl1, cl2, cl3, cl4, cl5, cl6, b493, b494, b495, b496, b497]; exact vn_i (by omega) (by decide))
      | exact Or.inl rfl
      | exact Or.inr rfl
    exact h
  · exact h.elim
set_option maxRecDepth 100000 in
theorem wk_X6_hold (B : Nat) : fw_Wk B fl_X6 (cal_X6_hold B) [] cst_X6 none kX6_hold 1 (ct_X6_hold B) := by
  intro as M Q QX h
  unfold ct_X6_hold at h
  split at h
  · obtain ⟨rfl, h⟩ := h
    refine ⟨rfl, [], ⟨20, And.intro kd_492 (And.intro kd_492 (And.intro kd_495 (And.intro kd_493 (And.intro ln_495 (And.intro ln_493 (And.intro ?_ h))))))⟩, nofun⟩
    show B + 495 ≠ B + 493
    omega
  · exact h.elim
set_option maxRecDepth 100000 in
theorem wk_X6_isIn (B : Nat) : fw_Wk B fl_X6 (cal_X6_isIn B) [] cst_X6 (some .boolean) kX6_isIn 3 (ct_X6_isIn B) := by
  intro as M Q QX h
  unfold ct_X6_isIn at h
  split at h
  · obtain ⟨rfl, c, hc, rfl, h⟩ := h
    refine ⟨rfl, [], ⟨200, ?_⟩, nofun⟩
    repeat' first
      | refine And.intro ?_ ?_
      | intro _
      | exact kd_492
      | exact kd_493
      | exact rfl
      | exact bi_01
      | exact vnl_493 (by decide)
      | (simp (disch := omega) only [cx0, cx1, cx2, cx3, cx4, px0, px1, px2, px3, px4, px5, px6, px7, pxL, pxS, n_cl, cl0, cl1, cl2, cl3, cl4, cl5, cl6, b493, b494, b495, b496, b497]; exact vn_i (by omega) (by decide))
      | exact Or.inl rfl
      | exact Or.inr rfl
    · rename_i z h1
      simp (disch := omega) only [cx0, cx1, cx2, cx3, cx4, px0, px1, px2, px3, px4, px5, px6, px7, pxL, pxS, n_cl, cl0, cl1, cl2, cl3, cl4, cl5, cl6, b493, b494, b495, b496, b497] at h1
      unfold hs sC at h
      rw [decide_eq_false h1] at h
      exact h
    · rename_i z h1
      simp (disch := omega) only [cx0, cx1, cx2, cx3, cx4, px0, px1, px2, px3, px4, px5, px6, px7, pxL, pxS, n_cl, cl0, cl1, cl2, cl3, cl4, cl5, cl6, b493, b494, b495, b496, b497] at h1
      unfold hs sC at h
      rw [decide_eq_true h1] at h
      exact h
  · exact h.elim
set_option maxRecDepth 100000 in
theorem wk_X6_next (B : Nat) : fw_Wk B fl_X6 (cal_X6_next B) [] cst_X6 (some .int) kX6_next 2 (ct_X6_next B) := by
  intro as M Q QX h
  unfold ct_X6_next at h
  split at h
  · rename_i f t
    have n4 : fw_sd (¬ (4 : Int32) = 0) := fw_sd_i (by decide)
    refine ⟨rfl, [], ⟨200, ?_⟩, nofun⟩
    unfold nxz rem4 at h
    refine And.intro n4 (And.intro n4 (And.intro (fun h1 => ?_) (fun h1 => And.intro n4 (And.intro n4 (And.intro (fun h2 => ?_) (fun h2 => ?_))))))
    · have h1 : f - f / 4 * 4 = t - t / 4 * 4 := h1
      rw [if_pos h1] at h
      refine And.intro (fun h2 => And.intro (fun h3 => ?_) (fun h3 => ?_)) (fun h2 => ?_)
      · rw [if_neg (Int32.not_lt.mpr h2), if_neg (Int32.not_lt.mpr h3)] at h
        exact h
      · rw [if_neg (Int32.not_lt.mpr h2), if_pos (Int32.not_le.mp h3)] at h
        exact h
      · rw [if_pos (Int32.not_le.mp h2)] at h
        exact h
    · have h1 : ¬ f - f / 4 * 4 = t - t / 4 * 4 := h1
      rw [if_neg h1, if_neg (Int32.not_lt.mpr h2)] at h
      exact h
    · have h1 : ¬ f - f / 4 * 4 = t - t / 4 * 4 := h1
      rw [if_neg h1, if_pos (Int32.not_le.mp h2)] at h
      exact h
  · exact h.elim
set_option maxRecDepth 100000 in
theorem wk_X6_frees (B : Nat) : fw_Wk B fl_X6 (cal_X6_frees B) [] cst_X6 none kX6_frees 2 (ct_X6_frees B) := by
  intro as M Q QX h
  unfold ct_X6_frees at h
  split at h
  · obtain ⟨rfl, c, hc, rfl, h⟩ := h
    refine ⟨rfl, [], ⟨200, ?_⟩, nofun⟩
    repeat' first
      | refine And.intro ?_ ?_
      | intro _
      | exact kd_492
      | exact kd_493
      | exact rfl
      | exact bi_01
      | exact vnl_493 (by decide)
      | (simp (disch := omega) only [cx0, cx1, cx2, cx3, cx4, px0, px1, px2, px3, px4, px5, px6, px7, pxL, pxS, n_cl, cl0, cl1, cl2, cl3, cl4, cl5, cl6, b493, b494, b495, b496, b497]; exact vn_i (by omega) (by decide))
      | exact Or.inl rfl
      | exact Or.inr rfl
    conv => whnf
    simp (disch := omega) only [cx0, cx1, cx2, cx3, cx4, px0, px1, px2, px3, px4, px5, px6, px7, pxL, pxS, n_cl, cl0, cl1, cl2, cl3, cl4, cl5, cl6, b493, b494, b495, b496, b497, row_1, row_row, st_row, upd_s, upd_n]
    exact h
  · exact h.elim
set_option maxRecDepth 100000 in
theorem wk_X6_suits (B : Nat) : fw_Wk B fl_X6 (cal_X6_suits B) [] cst_X6 (some .boolean) kX6_suits 3 (ct_X6_suits B) := by
  intro as M Q QX h
  unfold ct_X6_suits at h
  split at h
  · obtain ⟨rfl, p, c, hp, hc, rfl, rfl, h⟩ := h
    refine ⟨rfl, [], ⟨200, ?_⟩, nofun⟩
    refine And.intro kd_492 (And.intro rfl (And.intro (vP5 hp) (And.intro kd_492 (And.intro rfl (Exists.intro c (And.intro hc (And.intro rfl (And.intro (fun h1 => And.intro (Or.inl rfl) ?_) (fun h1 => ?_)))))))))
    · have h1 := bi_0.mp h1
      simp (disch := omega) only [cx0, cx1, cx2, cx3, cx4, px0, px1, px2, px3, px4, px5, px6, px7, pxL, pxS, n_cl, cl0, cl1, cl2, cl3, cl4, cl5, cl6, b493, b494, b495, b496, b497] at h1
      unfold suit at h
      rw [show hs (sC (mS B M) c 0) (sP (mS B M) p 5) = false from h1] at h
      exact h
    · have h1 := bi_n0.mp h1
      simp (disch := omega) only [cx0, cx1, cx2, cx3, cx4, px0, px1, px2, px3, px4, px5, px6, px7, pxL, pxS, n_cl, cl0, cl1, cl2, cl3, cl4, cl5, cl6, b493, b494, b495, b496, b497] at h1
      unfold suit at h
      rw [show hs (sC (mS B M) c 0) (sP (mS B M) p 5) = true from h1, Bool.true_and] at h
      refine And.intro kd_492 (And.intro rfl (And.intro (vP5 hp) (And.intro kd_492 (And.intro rfl (And.intro (vP1 hp) (And.intro kd_492 (And.intro rfl (Exists.intro c (And.intro hc (And.intro rfl (And.intro (fun h2 => And.intro (Or.inl rfl) ?_) (fun h2 => And.intro (Or.inr rfl) ?_))))))))))))
      · have h2 := bi_0.mp h2
        simp (disch := omega) only [cx0, cx1, cx2, cx3, cx4, px0, px1, px2, px3, px4, px5, px6, px7, pxL, pxS, n_cl, cl0, cl1, cl2, cl3, cl4, cl5, cl6, b493, b494, b495, b496, b497] at h2
        rw [show hs (sC (mS B M) c 0) (nxz (sP (mS B M) p 5) (sP (mS B M) p 1)) = false from h2] at h
        exact h
      · have h2 := bi_n0.mp h2
        simp (disch := omega) only [cx0, cx1, cx2, cx3, cx4, px0, px1, px2, px3, px4, px5, px6, px7, pxL, pxS, n_cl, cl0, cl1, cl2, cl3, cl4, cl5, cl6, b493, b494, b495, b496, b497] at h2
        rw [show hs (sC (mS B M) c 0) (nxz (sP (mS B M) p 5) (sP (mS B M) p 1)) = true from h2] at h
        exact h
  · exact h.elim
set_option maxRecDepth 100000 in
theorem wk_X6_goes (B : Nat) : fw_Wk B fl_X6 (cal_X6_goes B) [] cst_X6 none kX6_goes 3 (ct_X6_goes B) := by
  intro as M Q QX h
  unfold ct_X6_goes at h
  split at h
  · obtain ⟨rfl, c, p, hc, hp, rfl, rfl, h⟩ := h
    refine ⟨rfl, [], ⟨200, ?_⟩, nofun⟩
    repeat' first
      | refine And.intro ?_ ?_
      | intro _
      | exact kd_492
      | exact kd_493
      | exact rfl
      | exact bi_01
      | exact vnl_493 (by decide)
      | (simp (disch := omega) only [cx0, cx1, cx2, cx3, cx4, px0, px1, px2, px3, px4, px5, px6, px7, pxL, pxS, n_cl, cl0, cl1, cl2, cl3, cl4, cl5, cl6, b493, b494, b495, b496, b497]; exact vn_i (by omega) (by decide))
      | exact Or.inl rfl
      | exact Or.inr rfl
    · rename_i h1
      conv => whnf
      simp (disch := omega) only [cx0, cx1, cx2, cx3, cx4, px0, px1, px2, px3, px4, px5, px6, px7, pxL, pxS, n_cl, cl0, cl1, cl2, cl3, cl4, cl5, cl6, b493, b494, b495, b496, b497, row_1, row_row, st_row, upd_s, upd_n] at h1 ⊢
      unfold goS at h
      rw [if_neg (show ¬ sC (mS B M) c 1 = sP (mS B M) p 5 from h1)] at h
      exact h
    · rename_i h1
      conv => whnf
      simp (disch := omega) only [cx0, cx1, cx2, cx3, cx4, px0, px1, px2, px3, px4, px5, px6, px7, pxL, pxS, n_cl, cl0, cl1, cl2, cl3, cl4, cl5, cl6, b493, b494, b495, b496, b497, row_1, row_row, st_row, upd_s, upd_n] at h1 ⊢
      unfold goS at h
      rw [if_pos (show sC (mS B M) c 1 = sP (mS B M) p 5 from h1)] at h
      exact h
  · exact h.elim
end WN
end
section
/-! THE REFERENCE'S METHODS WALKED: loops -/
section WO
set_option maxRecDepth 100000 in
theorem wk_X6_copies (B : Nat) : fw_Wk B fl_X6 (cal_X6_copies B) [] cst_X6 none kX6_copies 3 (ct_X6_copies B) := by
  intro as M Q QX h
  unfold ct_X6_copies at h
  split at h
  · rename_i a b
    obtain ⟨ha, hb, la, lb, hab, h⟩ := h
    refine ⟨rfl, [(2, [true, true, true], fun n ls st M' => ∃ i, n = 517 - i ∧ i ≤ 517 ∧ ls = [some (.ref a), some (.ref b), some (.int (nI i))] ∧ st = [] ∧ M' = fw_row M a (cpN i (M.1 b) (M.1 a)))], ⟨10, ?_⟩, ?_⟩
    · exact Exists.intro 517 (Exists.intro 0 ⟨rfl, by omega, rfl, rfl, by rw [cpN_0, row_self]⟩)
    · intro q hq n ls st M' hi
      cases List.mem_singleton.mp hq
      obtain ⟨i, rfl, hi, rfl, rfl, rfl⟩ := hi
      refine ⟨30, And.intro (fun h1 => ?_) (fun h1 => ?_)⟩
      · have h1 : nI 517 ≤ nI i := h1
        rw [n_ge (by decide) (by omega)] at h1
        rw [show i = 517 by omega]
        exact h
      · have h1 : ¬ nI 517 ≤ nI i := h1
        rw [n_ge (by decide) (by omega)] at h1
        refine And.intro hb (And.intro (by rw [lb]; exact vn_i (by omega) (by decide)) (And.intro ha (And.intro (by rw [la]; exact vn_i (by omega) (by decide)) ?_)))
        refine Exists.intro (517 - (i + 1)) (And.intro (by omega) (Exists.intro (i + 1) ⟨rfl, by omega, ?_, rfl, ?_⟩))
        · show [some (Value.ref a), some (Value.ref b), some (Value.int (nI i + 1))] = _
          rw [nI_1]
        · rw [n_cl (by omega), row_n (Ne.symm hab), st_row, row_1, row_row, cpN_s]
  · exact h.elim
set_option maxRecDepth 100000 in
theorem wk_X6_legsOf (B : Nat) : fw_Wk B fl_X6 (cal_X6_legsOf B) [] cst_X6 (some .int) kX6_legsOf 4 (ct_X6_legsOf B) := by
  intro as M Q QX h
  unfold ct_X6_legsOf at h
  split at h
  · obtain ⟨rfl, p, hp, rfl, h⟩ := h
    refine ⟨rfl, [(4, [true, true, true, true], fun n ls st M' => ∃ i, n = 6 - i ∧ i ≤ 6 ∧ ls = [some (.ref (B + 492)), some (.int (nI p)), some (.int (lsum (mS B M) p i)), some (.int (nI i))] ∧ st = [] ∧ M' = M)], ⟨10, ?_⟩, ?_⟩
    · exact Exists.intro 6 (Exists.intro 0 ⟨rfl, by omega, rfl, rfl, rfl⟩)
    · intro q hq n ls st M' hi
      cases List.mem_singleton.mp hq
      obtain ⟨i, rfl, hi, rfl, rfl, rfl⟩ := hi
      refine ⟨30, And.intro (fun h1 => ?_) (fun h1 => ?_)⟩
      · have h1 : nI 6 ≤ nI i := h1
        rw [n_ge (by decide) (by omega)] at h1
        rw [show i = 6 by omega]
        exact h
      · have h1 : ¬ nI 6 ≤ nI i := h1
        rw [n_ge (by decide) (by omega)] at h1
        refine And.intro kd_492 (And.intro rfl (And.intro (vPL hp (by omega)) ?_))
        refine Exists.intro (6 - (i + 1)) (And.intro (by omega) (Exists.intro (i + 1) ⟨rfl, by omega, ?_, rfl, rfl⟩))
        show [some (Value.ref (B + 492)), some (Value.int (nI p)), some (Value.int (lsum (mS B M') p i + mS B M' ((37 : Int32) + 20 * nI p + (8 + nI i)).toNatClampNeg)), some (Value.int (nI i + 1))] = _
        rw [nI_1, pxL, n_cl (by omega)]
        rfl
  · exact h.elim
set_option maxRecDepth 100000 in
theorem wk_X6_isAsked (B : Nat) : fw_Wk B fl_X6 (cal_X6_isAsked B) [] cst_X6 (some .boolean) kX6_isAsked 5 (ct_X6_isAsked B) := by
  intro as M Q QX h
  unfold ct_X6_isAsked at h
  split at h
  · obtain ⟨rfl, p, c, hp, hc, rfl, rfl, hn, hn6, h⟩ := h
    generalize hN : cn (mS B M) = N at hn hn6 h
    refine ⟨rfl, [(5, [true, true, true, true, true], fun n ls st M' => ∃ i, n = N - i ∧ i ≤ N ∧ ls = [some (.ref (B + 492)), some (.int (nI p)), some (.int (nI c)), some (.int (bi (asked (mS B M) p c i))), some (.int (nI i))] ∧ st = [] ∧ M' = M)], ⟨10, ?_⟩, ?_⟩
    · exact Exists.intro N (Exists.intro 0 ⟨rfl, by omega, rfl, rfl, rfl⟩)
    · intro q hq n ls st M' hi
      cases List.mem_singleton.mp hq
      obtain ⟨i, rfl, hi, rfl, rfl, rfl⟩ := hi
      refine ⟨60, And.intro kd_492 (And.intro kd_493 (And.intro (vn_493 (i := 2) (by decide)) (And.intro (fun h1 => ?_) (fun h1 => ?_))))⟩
      · have h1 : mS B M' 2 ≤ nI i := h1
        rw [hn, n_ge (by omega) (by omega)] at h1
        rw [show i = N by omega]
        exact And.intro bi_01 h
      · have h1 : ¬ mS B M' 2 ≤ nI i := h1
        rw [hn, n_ge (by omega) (by omega)] at h1
        have key : ∀ b : Bool, asked (mS B M') p c (i + 1) = b → ∃ n', n' < N - i ∧ ∃ j, n' = N - j ∧ j ≤ N ∧ [some (Value.ref (B + 492)), some (Value.int (nI p)), some (Value.int (nI c)), some (Value.int (bi b)), some (Value.int (nI i + 1))] = [some (.ref (B + 492)), some (.int (nI p)), some (.int (nI c)), some (.int (bi (asked (mS B M') p c j))), some (.int (nI j))] ∧ ([] : List Value) = [] ∧ M' = M' := by
          intro b hb
          exact ⟨N - (i + 1), by omega, i + 1, rfl, by omega, by rw [hb, nI_1], rfl, rfl⟩
        refine And.intro (fun h2 => ?_) (fun h2 => And.intro (fun h3 => ?_) (fun h3 => And.intro kd_492 (And.intro rfl (And.intro (vC3 (by omega)) (And.intro (fun h4 => ?_) (fun h4 => And.intro kd_492 (And.intro rfl (And.intro (vC4 (by omega)) (And.intro (fun h5 => ?_) (fun h5 => ?_)))))))))) 
        · have h2 := bi_n0.mp h2
          exact key true (by unfold asked; rw [h2]; rfl)
        · have h2 := bi_0.mp h2
          have h3 : nI i = nI c := h3
          rw [nI_eq (by omega) (by omega)] at h3
          exact key false (by unfold asked; rw [h2, h3]; simp)
        · have h2 := bi_0.mp h2
          simp (disch := omega) only [cx0, cx1, cx2, cx3, cx4, px0, px1, px2, px3, px4, px5, px6, px7, pxL, pxS, n_cl, cl0, cl1, cl2, cl3, cl4, cl5, cl6, b493, b494, b495, b496, b497] at h4
          exact key false (by unfold asked sC; rw [h2, decide_eq_false h4]; simp)
        · have h2 := bi_0.mp h2
          simp (disch := omega) only [cx0, cx1, cx2, cx3, cx4, px0, px1, px2, px3, px4, px5, px6, px7, pxL, pxS, n_cl, cl0, cl1, cl2, cl3, cl4, cl5, cl6, b493, b494, b495, b496, b497] at h5
          exact key false (by unfold asked sC; rw [h2, decide_eq_false h5]; simp)
        · have h2 := bi_0.mp h2
          have h3 : ¬ nI i = nI c := h3
          rw [nI_eq (by omega) (by omega)] at h3
          simp (disch := omega) only [cx0, cx1, cx2, cx3, cx4, px0, px1, px2, px3, px4, px5, px6, px7, pxL, pxS, n_cl, cl0, cl1, cl2, cl3, cl4, cl5, cl6, b493, b494, b495, b496, b497] at h4 h5
          exact key true (by unfold asked sC; rw [h2, decide_eq_true h4, decide_eq_true h5, decide_eq_true h3]; rfl)
  · exact h.elim
theorem chB_ok (S : Sx) (c : Nat) : ∀ p, chB S c p = -1 ∨ ∃ b, b < p ∧ chB S c p = nI b := by
  intro p
  induction p with
  | zero => exact Or.inl rfl
  | succ p ih =>
    unfold chB
    split
    · exact Or.inr ⟨p, by omega, rfl⟩
    · rcases ih with h | ⟨b, hb, h⟩
      · exact Or.inl h
      · exact Or.inr ⟨b, by omega, h⟩
theorem nI_m1 {b : Nat} (h : b < 2 ^ 31) : nI b ≠ -1 := by
  intro e
  have := congrArg Int32.toInt e
  rw [nI_toInt h] at this
  have e2 : ((-1 : Int32)).toInt = -1 := by decide
  omega
set_option maxRecDepth 100000 in
theorem wk_X6_chooses (B : Nat) : fw_Wk B fl_X6 (cal_X6_chooses B) [] cst_X6 none kX6_chooses 5 (ct_X6_chooses B) := by
  intro as M Q QX h
  unfold ct_X6_chooses at h
  split at h
  · obtain ⟨rfl, c, hc, rfl, hn, hn6, hm, hm24, h⟩ := h
    unfold chS at h
    generalize hN : pn (mS B M) = N at hm hm24 h
    refine ⟨rfl, [(4, [true, true, true, true, false], fun n ls st M' => ∃ i, n = N - i ∧ i ≤ N ∧ ls = [some (.ref (B + 492)), some (.int (nI c)), some (.int (chB (mS B M) c i)), some (.int (nI i)), none] ∧ st = [] ∧ M' = M)], ⟨10, ?_⟩, ?_⟩
    · exact Exists.intro N (Exists.intro 0 ⟨rfl, by omega, rfl, rfl, rfl⟩)
    · intro q hq n ls st M' hi
      cases List.mem_singleton.mp hq
      obtain ⟨i, rfl, hi, rfl, rfl, rfl⟩ := hi
      refine ⟨100, And.intro kd_492 (And.intro kd_493 (And.intro (vn_493 (i := 3) (by decide)) (And.intro (fun h1 => ?_) (fun h1 => ?_))))⟩
      · have h1 : mS B M' 3 ≤ nI i := h1
        rw [hm, n_ge (by omega) (by omega)] at h1
        rw [show i = N by omega]
        refine And.intro (fun h2 => ?_) (fun h2 => ?_)
        · have h2 : ¬ chB (mS B M') c N = -1 := h2
          rw [if_neg h2] at h
          repeat' first
            | refine And.intro ?_ ?_
            | intro _
            | exact kd_492
            | exact kd_493
            | exact rfl
            | exact bi_01
            | exact vnl_493 (by decide)
            | (simp (disch := omega) only [cx0, cx1, cx2, cx3, cx4, px0, px1, px2, px3, px4, px5, px6, px7, pxL, pxS, n_cl, cl0, cl1, cl2, cl3, cl4, cl5, cl6, b493, b494, b495, b496, b497]; exact vn_i (by omega) (by decide))
            | exact Or.inl rfl
            | exact Or.inr rfl
          conv => whnf
          simp (disch := omega) only [cx0, cx1, cx2, cx3, cx4, px0, px1, px2, px3, px4, px5, px6, px7, pxL, pxS, n_cl, cl0, cl1, cl2, cl3, cl4, cl5, cl6, b493, b494, b495, b496, b497, row_1, row_row, st_row, upd_s, upd_n]
          exact h
        · have h2 : chB (mS B M') c N = -1 := h2
          rw [if_pos h2] at h
          repeat' first
            | refine And.intro ?_ ?_
            | intro _
            | exact kd_492
            | exact kd_493
            | exact rfl
            | exact bi_01
            | exact vnl_493 (by decide)
            | (simp (disch := omega) only [cx0, cx1, cx2, cx3, cx4, px0, px1, px2, px3, px4, px5, px6, px7, pxL, pxS, n_cl, cl0, cl1, cl2, cl3, cl4, cl5, cl6, b493, b494, b495, b496, b497]; exact vn_i (by omega) (by decide))
            | exact Or.inl rfl
            | exact Or.inr rfl
          conv => whnf
          simp (disch := omega) only [cx0, cx1, cx2, cx3, cx4, px0, px1, px2, px3, px4, px5, px6, px7, pxL, pxS, n_cl, cl0, cl1, cl2, cl3, cl4, cl5, cl6, b493, b494, b495, b496, b497, row_1, row_row, st_row, upd_s, upd_n]
          exact h
      · have h1 : ¬ mS B M' 3 ≤ nI i := h1
        rw [hm, n_ge (by omega) (by omega)] at h1
        have key : ∀ x : Int32, chB (mS B M') c (i + 1) = x → ∃ n', n' < N - i ∧ ∃ j, n' = N - j ∧ j ≤ N ∧ [some (Value.ref (B + 492)), some (Value.int (nI c)), some (Value.int x), some (Value.int (nI i + 1)), none] = [some (.ref (B + 492)), some (.int (nI c)), some (.int (chB (mS B M') c j)), some (.int (nI j)), none] ∧ ([] : List Value) = [] ∧ M' = M' := by
          intro x hx
          exact ⟨N - (i + 1), by omega, i + 1, rfl, by omega, by rw [hx, nI_1], rfl, rfl⟩
        have z0 : ¬ (¬ (0 : Int32) = 0) := fun z => z rfl
        refine And.intro kd_492 (And.intro rfl (And.intro (vP4 (by omega)) ?_))
        refine And.intro (fun h2 => ?_) (fun h2 => ?_)
        · refine And.intro (fun _ => ?_) (fun z => absurd z z0)
          simp (disch := omega) only [cx0, cx1, cx2, cx3, cx4, px0, px1, px2, px3, px4, px5, px6, px7, pxL, pxS, n_cl, cl0, cl1, cl2, cl3, cl4, cl5, cl6, b493, b494, b495, b496, b497] at h2
          refine key _ ?_
          rw [chB, if_neg]
          rintro ⟨z, -⟩
          unfold may sP at z
          rw [decide_eq_false h2] at z
          simp at z
        · refine And.intro kd_492 (And.intro rfl (Exists.intro i (Exists.intro c (And.intro (by omega) (And.intro hc (And.intro rfl (And.intro rfl ?_)))))))
          refine And.intro (fun h3 => ?_) (fun h3 => ?_)
          · refine And.intro (fun _ => ?_) (fun z => absurd z z0)
            have h3 := bi_0.mp h3
            refine key _ ?_
            rw [chB, if_neg]
            rintro ⟨z, -⟩
            unfold may at z
            rw [h3] at z
            simp at z
          · refine And.intro kd_492 (And.intro rfl (Exists.intro i (Exists.intro c (And.intro (by omega) (And.intro hc (And.intro rfl (And.intro rfl (And.intro hn (And.intro hn6 ?_)))))))))
            refine And.intro (fun h4 => ?_) (fun h4 => ?_)
            · refine And.intro (fun _ => ?_) (fun z => absurd z z0)
              have h4 := bi_n0.mp h4
              refine key _ ?_
              rw [chB, if_neg]
              rintro ⟨z, -⟩
              unfold may at z
              rw [h4] at z
              simp at z
            · refine And.intro (fun z => absurd z (by decide)) (fun _ => ?_)
              simp (disch := omega) only [cx0, cx1, cx2, cx3, cx4, px0, px1, px2, px3, px4, px5, px6, px7, pxL, pxS, n_cl, cl0, cl1, cl2, cl3, cl4, cl5, cl6, b493, b494, b495, b496, b497] at h2
              have h3 := bi_n0.mp h3
              have h4 := bi_0.mp h4
              have hmay : may (mS B M') c i = true := by
                unfold may sP
                rw [decide_eq_true h2, h3, h4]
                rfl
              refine And.intro (fun h5 => ?_) (fun h5 => ?_)
              · have h5 : chB (mS B M') c i = -1 := h5
                refine key _ ?_
                rw [chB, if_pos ⟨hmay, Or.inl h5⟩]
              · have h5 : ¬ chB (mS B M') c i = -1 := h5
                rcases chB_ok (mS B M') c i with z | ⟨b, hb, eb⟩
                · exact absurd z h5
                · have e1 : ((37 : Int32) + 20 * chB (mS B M') c i + 2).toNatClampNeg = 37 + 20 * b + 2 := by rw [eb, px2, n_cl (by omega)]
                  have e2 : (chB (mS B M') c i).toNatClampNeg = b := by rw [eb, n_cl (by omega)]
                  refine And.intro kd_492 (And.intro rfl (And.intro (vP2 (by omega)) (And.intro kd_492 (And.intro rfl (And.intro (by rw [eb]; exact vP2 (by omega)) (And.intro (fun h6 => ?_) (fun h6 => ?_)))))))
                  · have h6 : mS B M' ((37 : Int32) + 20 * chB (mS B M') c i + 2).toNatClampNeg ≤ mS B M' ((37 : Int32) + 20 * nI i + 2).toNatClampNeg := h6
                    rw [e1, px2, n_cl (by omega)] at h6
                    refine key _ ?_
                    rw [chB, if_neg]
                    rintro ⟨-, z | z⟩
                    · exact h5 z
                    · rw [e2] at z
                      exact absurd z (Int32.not_lt.mpr h6)
                  · have h6 : ¬ mS B M' ((37 : Int32) + 20 * chB (mS B M') c i + 2).toNatClampNeg ≤ mS B M' ((37 : Int32) + 20 * nI i + 2).toNatClampNeg := h6
                    rw [e1, px2, n_cl (by omega)] at h6
                    refine key _ ?_
                    rw [chB, if_pos ⟨hmay, Or.inr (by rw [e2]; exact Int32.not_le.mp h6)⟩]
  · exact h.elim
end WO
end
section
/-! SHARING BY LEGS: the greedy way and the way by ranks are one -/
section SG
def sm (f : Nat → Nat) : Nat → Nat
  | 0 => 0
  | c + 1 => sm f c + f c
def cB (P : Nat → Bool) : Nat → Nat
  | 0 => 0
  | c + 1 => cB P c + (bif P c then 1 else 0)
theorem cB_le {P Q : Nat → Bool} : ∀ {n : Nat}, (∀ d, d < n → P d = true → Q d = true) → cB P n ≤ cB Q n := by
  intro n
  induction n with
  | zero => intro _; exact Nat.le_refl 0
  | succ n ih =>
    intro h
    have h1 := ih (fun d hd => h d (by omega))
    have h2 := h n (by omega)
    unfold cB
    cases hp : P n with
    | false => cases Q n <;> simp only [cond_true, cond_false] <;> omega
    | true => rw [h2 hp]; simp only [cond_true]; omega
theorem cB_lt {P Q : Nat → Bool} : ∀ {n : Nat}, (∀ d, d < n → P d = true → Q d = true) → (∃ e, e < n ∧ Q e = true ∧ P e = false) → cB P n < cB Q n := by
  intro n
  induction n with
  | zero => rintro _ ⟨e, h, -⟩; omega
  | succ n ih =>
    rintro h ⟨e, he, hq, hp⟩
    have h1 := cB_le (P := P) (Q := Q) (n := n) (fun d hd => h d (by omega))
    unfold cB
    by_cases hen : e = n
    · subst hen
      rw [hq, hp]
      simp only [cond_true, cond_false]
      omega
    · have h3 := ih (fun d hd => h d (by omega)) ⟨e, by omega, hq, hp⟩
      have h2 := h n (by omega)
      cases hpn : P n with
      | false => cases Q n <;> simp only [cond_true, cond_false] <;> omega
      | true => rw [h2 hpn]; simp only [cond_true]; omega
theorem cB_eq {P Q : Nat → Bool} : ∀ {n : Nat}, (∀ d, d < n → P d = Q d) → cB P n = cB Q n := by
  intro n
  induction n with
  | zero => intro _; rfl
  | succ n ih =>
    intro h
    unfold cB
    rw [ih (fun d hd => h d (by omega)), h n (by omega)]
/-- one more -/
theorem cB_one {P Q : Nat → Bool} {b : Nat} : ∀ {n : Nat}, b < n → P b = false → Q b = true → (∀ d, d < n → d ≠ b → P d = Q d) → cB Q n = cB P n + 1 := by
  intro n
  induction n with
  | zero => intro h; omega
  | succ n ih =>
    intro hb hp hq h
    unfold cB
    by_cases e : b = n
    · subst e
      rw [hp, hq, cB_eq (fun d hd => h d (by omega) (by omega))]
      rfl
    · rw [ih (by omega) hp hq (fun d hd => h d (by omega)), h n (by omega) (fun z => e z.symm)]
      omega
theorem sm_le {r : Nat → Nat} {A : Nat} : ∀ {n : Nat}, (∀ d, d < n → r d ≤ A) → sm r n ≤ cB (fun d => decide (0 < r d)) n * A := by
  intro n
  induction n with
  | zero => intro _; simp [sm]
  | succ n ih =>
    intro h
    have h1 := ih (fun d hd => h d (by omega))
    have h2 := h n (by omega)
    unfold sm cB
    by_cases hz : 0 < r n
    · rw [decide_eq_true hz, cond_true, Nat.succ_mul]
      omega
    · rw [decide_eq_false hz, cond_false, Nat.add_zero]
      omega
/-- d comes before c -/
def bf (r : Nat → Nat) (d c : Nat) : Bool := decide (r c < r d) || (decide (r d = r c) && decide (d < c))
def rk (r : Nat → Nat) (c : Nat) : Nat := cB (fun d => bf r d c) 6
theorem bf_iff {r : Nat → Nat} {d c : Nat} : bf r d c = true ↔ r c < r d ∨ (r d = r c ∧ d < c) := by simp [bf]
theorem bf_no {r : Nat → Nat} {d c : Nat} : bf r d c = false ↔ ¬ (r c < r d ∨ (r d = r c ∧ d < c)) := by
  rw [← bf_iff]
  cases bf r d c <;> simp
theorem rk_lt {r : Nat → Nat} {d c : Nat} (hd : d < 6) (h : bf r d c = true) : rk r d < rk r c := by
  refine cB_lt (fun x _ hx => ?_) ⟨d, hd, h, ?_⟩
  · rw [bf_iff] at *
    omega
  · rw [bf_no]
    omega
theorem bf_tot {r : Nat → Nat} {d c : Nat} (h : d ≠ c) : bf r d c = true ∨ bf r c d = true := by
  rw [bf_iff, bf_iff]
  omega
/-- the first of those who are not set has just the rank that is next -/
theorem rk_next {r : Nat → Nat} {j b : Nat} (hset : cB (fun c => decide (rk r c < j)) 6 = j) (hb : b < 6) (hbn : ¬ rk r b < j) (hmax : ∀ d, d < 6 → ¬ rk r d < j → d ≠ b → bf r b d = true) :
    rk r b = j ∧ cB (fun c => decide (rk r c < j + 1)) 6 = j + 1 ∧ ∀ d, d < 6 → (rk r d < j + 1 ↔ rk r d < j ∨ d = b) := by
  have e1 : rk r b = j := by
    rw [← hset]
    refine cB_eq (fun d hd => ?_)
    show bf r d b = decide (rk r d < j)
    by_cases hj : rk r d < j
    · rw [decide_eq_true hj]
      have hne : d ≠ b := fun z => by rw [z] at hj; exact hbn hj
      rcases bf_tot (r := r) hne with z | z
      · exact z
      · have := rk_lt hb z
        omega
    · rw [decide_eq_false hj]
      by_cases hne : d = b
      · rw [hne, bf_no]; omega
      · have := hmax d hd hj hne
        rw [bf_iff] at this
        rw [bf_no]
        omega
  have e3 : ∀ d, d < 6 → (rk r d < j + 1 ↔ rk r d < j ∨ d = b) := by
    intro d hd
    constructor
    · intro h
      by_cases hne : d = b
      · exact Or.inr hne
      · rcases bf_tot (r := r) hne with z | z
        · have := rk_lt hd z
          omega
        · have := rk_lt hb z
          omega
    · rintro (h | h)
      · omega
      · rw [h]; omega
  refine ⟨e1, ?_, e3⟩
  rw [cB_one (P := fun c => decide (rk r c < j)) (b := b) hb (decide_eq_false hbn) (decide_eq_true (by omega)) (fun d hd hne => ?_), hset]
  by_cases h : rk r d < j
  · rw [decide_eq_true h, decide_eq_true (by omega)]
  · rw [decide_eq_false h, decide_eq_false (fun z => ((e3 d hd).mp z).elim h hne)]
/-- as long as something remains there is one with a remainder who is not set -/
theorem rk_some {r : Nat → Nat} {j A R : Nat} (hset : cB (fun c => decide (rk r c < j)) 6 = j) (hr : ∀ d, d < 6 → r d < A) (hs : sm r 6 = R * A) (hj : j < R) : ∃ d, d < 6 ∧ ¬ rk r d < j ∧ 0 < r d := by
  refine Classical.byContradiction fun hno => ?_
  have hall : ∀ d, d < 6 → decide (0 < r d) = true → decide (rk r d < j) = true := by
    intro d hd h
    refine decide_eq_true (Classical.byContradiction fun h2 => hno ⟨d, hd, h2, of_decide_eq_true h⟩)
  have h1 := cB_le hall
  rw [hset] at h1
  have h2 := sm_le (r := r) (A := A) (n := 6) (fun d hd => Nat.le_of_lt (hr d hd))
  rw [hs] at h2
  have hA : 0 < A := Nat.lt_of_le_of_lt (Nat.zero_le _) (hr 0 (by decide))
  have h3 := Nat.mul_le_mul_right A h1
  have h4 : (j + 1) * A ≤ R * A := Nat.mul_le_mul_right A hj
  rw [Nat.succ_mul] at h4
  omega
/-- the scan for the greatest remainder among those not set -/
def gS (r : Nat → Nat) (u : Nat → Bool) : Nat → Option Nat
  | 0 => none
  | i + 1 => if u i = false ∧ (match gS r u i with | none => 0 | some b => r b) < r i then some i else gS r u i
theorem gS_ok (r : Nat → Nat) (u : Nat → Bool) : ∀ i, (gS r u i = none → ∀ d, d < i → u d = false → r d = 0) ∧ ∀ b, gS r u i = some b → b < i ∧ u b = false ∧ 0 < r b ∧ ∀ d, d < i → u d = false → d ≠ b → bf r b d = true := by
  intro i
  induction i with
  | zero => exact ⟨fun _ d h => (by omega), fun b h => (by cases h)⟩
  | succ i ih =>
    obtain ⟨ih1, ih2⟩ := ih
    unfold gS
    cases hg : gS r u i with
    | none =>
      have ih1 := ih1 hg
      by_cases hc : u i = false ∧ 0 < r i
      · rw [if_pos hc]
        refine ⟨fun h => (by cases h), fun b h => ?_⟩
        cases h
        refine ⟨by omega, hc.1, hc.2, fun d hd hu hne => ?_⟩
        rw [bf_iff, ih1 d (by omega) hu]
        omega
      · rw [if_neg hc]
        refine ⟨fun _ d hd hu => ?_, fun b h => (by cases h)⟩
        by_cases e : d = i
        · subst e
          exact Nat.eq_zero_of_not_pos fun z => hc ⟨hu, z⟩
        · exact ih1 d (by omega) hu
    | some b0 =>
      obtain ⟨k1, k2, k3, k4⟩ := ih2 b0 hg
      by_cases hc : u i = false ∧ r b0 < r i
      · rw [if_pos hc]
        refine ⟨fun h => (by cases h), fun b h => ?_⟩
        cases h
        refine ⟨by omega, hc.1, by omega, fun d hd hu hne => ?_⟩
        rw [bf_iff]
        by_cases e : d = b0
        · subst e; omega
        · have := k4 d (by omega) hu e
          rw [bf_iff] at this
          omega
      · rw [if_neg hc]
        refine ⟨fun h => (by cases h), fun b h => ?_⟩
        cases h
        refine ⟨by omega, k2, k3, fun d hd hu hne => ?_⟩
        by_cases e : d = i
        · subst e
          rw [bf_iff]
          have : ¬ r b0 < r d := fun z => hc ⟨hu, z⟩
          omega
        · exact k4 d (by omega) hu hne
/-- masks of six -/
theorem mk_bit : ∀ v, v < 64 → ∀ c, c < 6 → ((nI v >>> (nI c &&& 31)) &&& 1 = 0 ↔ v.testBit c = false) := by decide +kernel
theorem mk_set : ∀ v, v < 64 → ∀ b, b < 6 → nI v ||| ((1 : Int32) <<< (nI b &&& 31)) = nI (v ||| 2 ^ b) ∧ v ||| 2 ^ b < 64 ∧ ∀ c, c < 6 → (v ||| 2 ^ b).testBit c = (v.testBit c || decide (c = b)) := by decide +kernel
/-! the numbers of a sharing -/
theorem sm_mul {L : Nat → Nat} {k : Nat} : ∀ n, sm (fun c => k * L c) n = k * sm L n := by
  intro n
  induction n with
  | zero => rfl
  | succ n ih => unfold sm; rw [ih, Nat.mul_add]
theorem sm_dm {f : Nat → Nat} {A : Nat} : ∀ n, sm f n = A * sm (fun c => f c / A) n + sm (fun c => f c % A) n := by
  intro n
  induction n with
  | zero => rfl
  | succ n ih =>
    unfold sm
    rw [ih, Nat.mul_add]
    have := Nat.div_add_mod (f n) A
    omega
theorem sm_bd {L : Nat → Nat} {b : Nat} : ∀ n, (∀ c, c < n → L c ≤ b) → sm L n ≤ n * b := by
  intro n
  induction n with
  | zero => intro _; simp [sm]
  | succ n ih =>
    intro h
    have h1 := ih (fun c hc => h c (by omega))
    have h2 := h n (by omega)
    unfold sm
    rw [Nat.succ_mul]
    omega
theorem sm_pos {L : Nat → Nat} : ∀ n c, c < n → 0 < L c → 0 < sm L n := by
  intro n
  induction n with
  | zero => intro c h; omega
  | succ n ih =>
    intro c hc hp
    unfold sm
    by_cases e : c = n
    · subst e; omega
    · have := ih c (by omega) hp
      omega
theorem sm_cl {f g : Nat → Nat} : ∀ n, (∀ c, c < n → f c ≤ g c) → sm f n ≤ sm g n := by
  intro n
  induction n with
  | zero => intro _; exact Nat.le_refl 0
  | succ n ih =>
    intro h
    have h1 := ih (fun c hc => h c (by omega))
    have h2 := h n (by omega)
    unfold sm
    omega
theorem sm_mono {f : Nat → Nat} {i : Nat} : ∀ n, i ≤ n → sm f i ≤ sm f n := by
  intro n
  induction n with
  | zero => intro h; rw [Nat.le_zero.mp h]; exact Nat.le_refl _
  | succ n ih =>
    intro h
    by_cases e : i = n + 1
    · rw [e]; exact Nat.le_refl _
    · have h1 := ih (by omega)
      show sm f i ≤ sm f n + f n
      omega
/-- what a sharing is in numbers: paid k, legs L, all A, quotients, remainders, rest R -/
def SHN (S : Sx) (p k A R : Nat) (L : Nat → Nat) : Prop :=
  (∀ c, c < 6 → L c ≤ 100000 ∧ sP S p (8 + c) = nI (L c)) ∧ sm L 6 = A ∧ 0 < A ∧ A ≤ 600000 ∧ k ≤ 1000 ∧ sm (fun c => k * L c / A) 6 + R = k ∧ sm (fun c => k * L c % A) 6 = R * A
theorem SHN_of {S : Sx} {p k : Nat} (hk : k ≤ 1000) (h : LG S p) : ∃ A R L, SHN S p k A R L := by
  obtain ⟨L, h1, c0, hc0, h2⟩ := h
  have hA : 0 < sm L 6 := sm_pos 6 c0 hc0 h2
  have hb := sm_bd 6 (fun c hc => (h1 c hc).1)
  have e1 := sm_mul (L := L) (k := k) 6
  rw [sm_dm (A := sm L 6) 6] at e1
  have hq : sm (fun c => k * L c / sm L 6) 6 ≤ k := by
    have : sm L 6 * sm (fun c => k * L c / sm L 6) 6 ≤ sm L 6 * k := by rw [Nat.mul_comm (sm L 6) k]; omega
    exact Nat.le_of_mul_le_mul_left this hA
  refine ⟨sm L 6, k - sm (fun c => k * L c / sm L 6) 6, L, h1, rfl, hA, by omega, hk, by omega, ?_⟩
  have e2 : sm L 6 * k = sm L 6 * sm (fun c => k * L c / sm L 6) 6 + sm L 6 * (k - sm (fun c => k * L c / sm L 6) 6) := by
    rw [← Nat.mul_add]
    congr 1
    omega
  rw [Nat.mul_comm k] at e1
  rw [Nat.mul_comm (k - _)]
  omega
theorem lsum_n {S : Sx} {p k A R : Nat} {L : Nat → Nat} (h : SHN S p k A R L) : ∀ i, i ≤ 6 → lsum S p i = nI (sm L i) := by
  intro i
  induction i with
  | zero => intro _; rfl
  | succ i ih =>
    intro hi
    unfold lsum sm
    rw [ih (by omega), (h.1 i (by omega)).2, n_add]
theorem kL_lt {S : Sx} {p k A R : Nat} {L : Nat → Nat} (h : SHN S p k A R L) {c : Nat} (hc : c < 6) : k * L c < 2 ^ 31 := by
  have h1 := (h.1 c hc).1
  have h2 := h.2.2.2.2.1
  have : k * L c ≤ 1000 * 100000 := Nat.mul_le_mul h2 h1
  omega
theorem shq_n {S : Sx} {p k A R : Nat} {L : Nat → Nat} (h : SHN S p k A R L) {c : Nat} (hc : c < 6) : shq S p (nI k) c = nI (k * L c / A) := by
  unfold shq
  rw [lsum_n h 6 (Nat.le_refl _), (h.1 c hc).2, n_mul, h.2.1, pk_div (kL_lt h hc) h.2.2.1 (by have := h.2.2.2.1; omega)]
theorem shr_n {S : Sx} {p k A R : Nat} {L : Nat → Nat} (h : SHN S p k A R L) {c : Nat} (hc : c < 6) : shr S p (nI k) c = nI (k * L c % A) := by
  unfold shr
  rw [lsum_n h 6 (Nat.le_refl _), (h.1 c hc).2, n_mul, h.2.1, pk_rem (kL_lt h hc) h.2.2.1 (by have := h.2.2.2.1; omega)]
theorem rst_n {S : Sx} {p k A R : Nat} {L : Nat → Nat} (h : SHN S p k A R L) : ∀ i, i ≤ 6 → rst S p (nI k) i = nI (k - sm (fun c => k * L c / A) i) := by
  intro i
  induction i with
  | zero => intro _; rfl
  | succ i ih =>
    intro hi
    have h6 := h.2.2.2.2.2.1
    have hm : sm (fun c => k * L c / A) i + k * L i / A ≤ sm (fun c => k * L c / A) 6 := sm_mono (f := fun c => k * L c / A) (i := i + 1) 6 hi
    show rst S p (nI k) i - shq S p (nI k) i = nI (k - (sm (fun c => k * L c / A) i + k * L i / A))
    rw [ih (by omega), shq_n h (by omega), pk_sub (by omega)]
    congr 1
    omega
theorem rst_R {S : Sx} {p k A R : Nat} {L : Nat → Nat} (h : SHN S p k A R L) : rst S p (nI k) 6 = nI R := by
  rw [rst_n h 6 (Nat.le_refl _)]
  have := h.2.2.2.2.2.1
  congr 1
  omega
theorem rR_lt {S : Sx} {p k A R : Nat} {L : Nat → Nat} (h : SHN S p k A R L) : R ≤ 1000 := by
  have := h.2.2.2.2.2.1
  have := h.2.2.2.2.1
  omega
theorem rnk_n {S : Sx} {p k A R : Nat} {L : Nat → Nat} (h : SHN S p k A R L) {c : Nat} (hc : c < 6) : ∀ i, i ≤ 6 → rnk S p (nI k) c i = cB (fun d => bf (fun c => k * L c % A) d c) i := by
  intro i
  induction i with
  | zero => intro _; rfl
  | succ i ih =>
    intro hi
    have hA := h.2.2.1
    have hA2 := h.2.2.2.1
    have m1 := Nat.mod_lt (k * L c) hA
    have m2 := Nat.mod_lt (k * L i) hA
    unfold rnk cB
    have e1 : (shr S p (nI k) c < shr S p (nI k) i ∨ (shr S p (nI k) i = shr S p (nI k) c ∧ i < c)) ↔ bf (fun c => k * L c % A) i c = true := by
      rw [bf_iff, shr_n h hc, shr_n h (by omega), n_lt (by omega) (by omega), nI_eq (by omega) (by omega)]
    rw [ih (by omega)]
    congr 1
    by_cases z : bf (fun c => k * L c % A) i c = true
    · rw [z, cond_true, if_pos (e1.mpr z)]
    · rw [if_neg (fun y => z (e1.mp y))]
      rw [Bool.not_eq_true] at z
      rw [z, cond_false]
theorem fsh_n {S : Sx} {p k A R : Nat} {L : Nat → Nat} (h : SHN S p k A R L) {c : Nat} (hc : c < 6) : fsh S p (nI k) c = nI (k * L c / A + (if rk (fun c => k * L c % A) c < R then 1 else 0)) := by
  have h1 := rnk_n h hc 6 (Nat.le_refl _)
  have hb : rk (fun c => k * L c % A) c ≤ 6 := by
    have : ∀ (P : Nat → Bool) n, cB P n ≤ n := by
      intro P n
      induction n with
      | zero => exact Nat.le_refl 0
      | succ n ih => unfold cB; cases P n <;> simp only [cond_true, cond_false] <;> omega
    exact this _ 6
  have hR := rR_lt h
  have e1 : nI (rnk S p (nI k) c 6) < rst S p (nI k) 6 ↔ rk (fun c => k * L c % A) c < R := by
    rw [h1, rst_R h, n_lt (by show rk _ c < _; omega) (by omega)]
    exact Iff.rfl
  unfold fsh
  rw [shq_n h hc]
  by_cases z : rk (fun c => k * L c % A) c < R
  · rw [if_pos (e1.mpr z), if_pos z, nI_1]
  · rw [if_neg (fun y => z (e1.mp y)), if_neg z]; rfl
/-- the shares of a parcel replaced -/
def shF (S : Sx) (p : Nat) (f : Nat → Int32) : Sx := fun k => if 51 + 20 * p ≤ k ∧ k < 57 + 20 * p then f (k - (51 + 20 * p)) else S k
theorem shF_put {S : Sx} {p b : Nat} {f : Nat → Int32} {v : Int32} (hb : b < 6) : upd (shF S p f) (37 + 20 * p + (14 + b)) v = shF S p (upd f b v) := by
  funext k
  unfold shF upd
  by_cases h1 : k = 37 + 20 * p + (14 + b)
  · rw [if_pos h1, if_pos (by omega), if_pos (by omega)]
  · rw [if_neg h1]
    by_cases h2 : 51 + 20 * p ≤ k ∧ k < 57 + 20 * p
    · dsimp only
      rw [if_pos h2, if_pos h2, if_neg (by omega)]
    · dsimp only
      rw [if_neg h2, if_neg h2]
theorem shF_get {S : Sx} {p c : Nat} {f : Nat → Int32} (hc : c < 6) : shF S p f (37 + 20 * p + (14 + c)) = f c := by
  unfold shF
  rw [if_pos (by omega)]
  congr 1
  omega
theorem shF_off {S : Sx} {p k : Nat} {f : Nat → Int32} (h : k < 51 + 20 * p ∨ 57 + 20 * p ≤ k) : shF S p f k = S k := by
  unfold shF
  rw [if_neg (by omega)]
theorem shF_id {S : Sx} {p : Nat} {f : Nat → Int32} (h : ∀ c, c < 6 → f c = S (51 + 20 * p + c)) : shF S p f = S := by
  funext k
  unfold shF
  by_cases h2 : 51 + 20 * p ≤ k ∧ k < 57 + 20 * p
  · rw [if_pos h2, h _ (by omega)]
    congr 1
    omega
  · rw [if_neg h2]
theorem shF_cg {S : Sx} {p : Nat} {f g : Nat → Int32} (h : ∀ c, c < 6 → f c = g c) : shF S p f = shF S p g := by
  funext k
  unfold shF
  by_cases h2 : 51 + 20 * p ≤ k ∧ k < 57 + 20 * p
  · rw [if_pos h2, if_pos h2, h _ (by omega)]
  · rw [if_neg h2, if_neg h2]
theorem shW_F {S : Sx} {p : Nat} {m : Int32} : ∀ i, i ≤ 6 → shW S p m i = shF S p (fun c => if c < i then fsh S p m c else S (51 + 20 * p + c)) := by
  intro i
  induction i with
  | zero => intro _; exact (shF_id (fun c _ => if_neg (Nat.not_lt_zero c))).symm
  | succ i ih =>
    intro hi
    unfold shW uP
    rw [ih (by omega), shF_put (by omega)]
    refine shF_cg (fun c hc => ?_)
    unfold upd
    by_cases e : c = i
    · subst e
      rw [if_pos rfl, if_pos (by omega)]
    · rw [if_neg e]
      dsimp only
      by_cases e2 : c < i
      · rw [if_pos e2, if_pos (by omega)]
      · rw [if_neg e2, if_neg (by omega)]
end SG
end
section
/-! THE REFERENCE'S shares, walked -/
section WS
theorem uC_lo {S : Sx} {c w k : Nat} {v : Int32} (h : k < 7) : uC S c w v k = S k := upd_n (by omega)
theorem uP_lo {S : Sx} {p w k : Nat} {v : Int32} (h : k < 37) : uP S p w v k = S k := upd_n (by omega)
theorem frS_lo {S : Sx} {c k : Nat} (h : k < 7) : frS S c k = S k := by unfold frS; rw [uC_lo h, uC_lo h]
theorem tipW_lo {S : Sx} {p k : Nat} (h : k < 7) : ∀ i, tipW S p i k = S k := by
  intro i
  induction i with
  | zero => rfl
  | succ i ih => unfold tipW; rw [uC_lo h, ih]
theorem shW_lo {S : Sx} {p k : Nat} {m : Int32} (h : k < 37) : ∀ i, shW S p m i k = S k := by
  intro i
  induction i with
  | zero => rfl
  | succ i ih => unfold shW; rw [uP_lo h, ih]
theorem cB_f {P : Nat → Bool} : ∀ n, (∀ d, d < n → P d = false) → cB P n = 0 := by
  intro n
  induction n with
  | zero => intro _; rfl
  | succ n ih =>
    intro h
    unfold cB
    rw [ih (fun d hd => h d (by omega)), h n (by omega)]
    rfl
/-- best and most of the scan -/
def gV (r : Nat → Nat) : Option Nat → Int32 × Int32
  | none => (-1, 0)
  | some b => (nI b, nI (r b))
set_option maxHeartbeats 4000000 in
set_option maxRecDepth 100000 in
theorem wk_X6_shares (B : Nat) : fw_Wk B fl_X6 (cal_X6_shares B) [] cst_X6 none kX6_shares 10 (ct_X6_shares B) := by
  intro as M Q QX h
  unfold ct_X6_shares at h
  split at h
  · obtain ⟨rfl, p, k, hp, hk, rfl, rfl, hLG, hn, hn6, h⟩ := h
    obtain ⟨A, R, L, hS⟩ := SHN_of hk hLG
    have hA := hS.2.2.1
    have hA2 := hS.2.2.2.1
    have hRk := rR_lt hS
    have hsum : lsum (mS B M) p 6 = nI A := by rw [lsum_n hS 6 (Nat.le_refl _), hS.2.1]
    generalize hN : cn (mS B M) = N at hn hn6
    have hrlt : ∀ c, k * L c % A < A := fun c => Nat.mod_lt _ hA
    refine ⟨rfl, [
      (12, [true, true, true, true, true, true, false, false, false, false], fun n ls st M' => ∃ i, n = 20000 + (6 - i) ∧ i ≤ 6 ∧ ls = [some (.ref (B + 492)), some (.int (nI p)), some (.int (nI k)), some (.int (nI A)), some (.int (rst (mS B M) p (nI k) i)), some (.int (nI i)), none, none, none, none] ∧ st = [] ∧ M' = mK B M (shF (mS B M) p (fun c => if c < i then shq (mS B M) p (nI k) c else mS B M (51 + 20 * p + c)))),
      (63, [true, true, true, true, true, true, false, false, false, false], fun n ls st M' => ∃ j v, n = 100 + 10 * (R - j) + 9 ∧ j ≤ R ∧ v < 64 ∧ (∀ c, c < 6 → v.testBit c = decide (rk (fun c => k * L c % A) c < j)) ∧ cB (fun c => decide (rk (fun c => k * L c % A) c < j)) 6 = j ∧ ls = [some (.ref (B + 492)), some (.int (nI p)), some (.int (nI k)), some (.int (nI A)), some (.int (nI (R - j))), some (.int (nI v)), none, none, none, none] ∧ st = [] ∧ M' = mK B M (shF (mS B M) p (fun c => nI (k * L c / A + (if rk (fun c => k * L c % A) c < j then 1 else 0))))),
      (77, [true, true, true, true, true, true, true, true, true, false], fun n ls st M' => ∃ j v i, n = 100 + 10 * (R - j) + (6 - i) ∧ j < R ∧ i ≤ 6 ∧ v < 64 ∧ (∀ c, c < 6 → v.testBit c = decide (rk (fun c => k * L c % A) c < j)) ∧ cB (fun c => decide (rk (fun c => k * L c % A) c < j)) 6 = j ∧ ls = [some (.ref (B + 492)), some (.int (nI p)), some (.int (nI k)), some (.int (nI A)), some (.int (nI (R - j))), some (.int (nI v)), some (.int (gV (fun c => k * L c % A) (gS (fun c => k * L c % A) (fun c => v.testBit c) i)).1), some (.int (gV (fun c => k * L c % A) (gS (fun c => k * L c % A) (fun c => v.testBit c) i)).2), some (.int (nI i)), none] ∧ st = [] ∧ M' = mK B M (shF (mS B M) p (fun c => nI (k * L c / A + (if rk (fun c => k * L c % A) c < j then 1 else 0))))),
      (171, [true, true, false, false, false, false, true, false, false, false], fun n ls st M' => ∃ i, n = N - i ∧ i ≤ N ∧ ls = [some (.ref (B + 492)), some (.int (nI p)), none, none, none, none, some (.int (nI i)), none, none, none] ∧ st = [] ∧ M' = mK B M (tipW (shW (mS B M) p (nI k) 6) p i))], ⟨30, ?_⟩, ?_⟩
    · refine And.intro kd_492 (And.intro rfl (Exists.intro p (And.intro hp (And.intro rfl ?_))))
      refine Exists.intro 20006 (Exists.intro 0 ⟨rfl, by omega, ?_, rfl, ?_⟩)
      · show [some (Value.ref (B + 492)), some (Value.int (nI p)), some (Value.int (nI k)), some (Value.int (lsum (mS B M) p 6)), some (Value.int (nI k)), some (Value.int 0), none, none, none, none] = _
        rw [hsum]
        rfl
      · rw [shF_id (fun c _ => if_neg (Nat.not_lt_zero c)), mK_S]
    · intro q hq n ls st M' hi
      simp only [List.mem_cons, List.not_mem_nil, or_false] at hq
      rcases hq with rfl | rfl | rfl | rfl
      · obtain ⟨i, rfl, hi, rfl, rfl, rfl⟩ := hi
        refine ⟨60, And.intro (fun h1 => ?_) (fun h1 => ?_)⟩
        · have h1 : nI 6 ≤ nI i := h1
          rw [n_ge (by decide) (by omega)] at h1
          have e6 : i = 6 := by omega
          subst e6
          refine Exists.intro (100 + 10 * R + 9) (And.intro (by omega) (Exists.intro 0 (Exists.intro 0 ⟨by omega, by omega, by omega, fun c hc => ?_, ?_, ?_, rfl, ?_⟩)))
          · rw [decide_eq_false (Nat.not_lt_zero _)]
            simp
          · exact cB_f 6 (fun d _ => decide_eq_false (Nat.not_lt_zero _))
          · show [some (Value.ref (B + 492)), some (Value.int (nI p)), some (Value.int (nI k)), some (Value.int (nI A)), some (Value.int (rst (mS B M) p (nI k) 6)), some (Value.int 0), none, none, none, none] = _
            rw [rst_R hS]
            rfl
          · refine congrArg (mK B M) (shF_cg (fun c hc => ?_))
            rw [if_pos hc, if_neg (Nat.not_lt_zero _), shq_n hS hc]
            rfl
        · have h1 : ¬ nI 6 ≤ nI i := h1
          rw [n_ge (by decide) (by omega)] at h1
          have hlg : mS B (mK B M (shF (mS B M) p (fun c => if c < i then shq (mS B M) p (nI k) c else mS B M (51 + 20 * p + c)))) (37 + 20 * p + (8 + i)) = nI (L i) := by
            rw [mS_K, shF_off (by omega)]
            exact (hS.1 i (by omega)).2
          refine And.intro kd_492 (And.intro rfl (And.intro (vPL hp (by omega)) ?_))
          refine And.intro (fw_sd_i (fun z => ?_)) ?_
          · have z : nI A = nI 0 := z
            rw [nI_eq (by omega) (by omega)] at z
            omega
          refine And.intro kd_492 (And.intro rfl (And.intro (vPS hp (by omega)) ?_))
          have eq : nI k * mS B (mK B M (shF (mS B M) p (fun c => if c < i then shq (mS B M) p (nI k) c else mS B M (51 + 20 * p + c)))) ((37 : Int32) + 20 * nI p + (8 + nI i)).toNatClampNeg / nI A = shq (mS B M) p (nI k) i := by
            rw [pxL, n_cl (by omega), hlg]
            unfold shq sP
            rw [hsum]
            have := (hS.1 i (by omega)).2
            unfold sP at this
            rw [this]
          refine Exists.intro (20000 + (6 - (i + 1))) (And.intro (by omega) (Exists.intro (i + 1) ⟨rfl, by omega, ?_, rfl, ?_⟩))
          · show [some (Value.ref (B + 492)), some (Value.int (nI p)), some (Value.int (nI k)), some (Value.int (nI A)), some (Value.int (rst (mS B M) p (nI k) i - nI k * mS B (mK B M (shF (mS B M) p (fun c => if c < i then shq (mS B M) p (nI k) c else mS B M (51 + 20 * p + c)))) ((37 : Int32) + 20 * nI p + (8 + nI i)).toNatClampNeg / nI A)), some (Value.int (nI i + 1)), none, none, none, none] = _
            rw [eq, nI_1]
            rfl
          · show mK B (mK B M _) (upd (mS B (mK B M _)) ((37 : Int32) + 20 * nI p + (14 + nI i)).toNatClampNeg (nI k * mS B (mK B M (shF (mS B M) p (fun c => if c < i then shq (mS B M) p (nI k) c else mS B M (51 + 20 * p + c)))) ((37 : Int32) + 20 * nI p + (8 + nI i)).toNatClampNeg / nI A)) = _
            rw [eq, pxS, n_cl (by omega), mS_K, mK_K, shF_put (by omega)]
            refine congrArg (mK B M) (shF_cg (fun c hc => ?_))
            unfold upd
            by_cases e : c = i
            · subst e
              rw [if_pos rfl, if_pos (by omega)]
            · rw [if_neg e]
              dsimp only
              by_cases e2 : c < i
              · rw [if_pos e2, if_pos (by omega)]
              · rw [if_neg e2, if_neg (by omega)]
      · obtain ⟨j, v, rfl, hj, hv, hbit, hcnt, rfl, rfl, rfl⟩ := hi
        refine ⟨60, And.intro (fun h1 => ?_) (fun h1 => ?_)⟩
        · have h1 : nI (R - j) ≤ nI 0 := h1
          rw [n_ge (by omega) (by omega)] at h1
          have e : j = R := by omega
          subst e
          refine Exists.intro N (And.intro (by omega) (Exists.intro 0 ⟨by omega, by omega, rfl, rfl, ?_⟩))
          refine congrArg (mK B M) ?_
          show _ = shW (mS B M) p (nI k) 6
          rw [shW_F 6 (Nat.le_refl _)]
          refine shF_cg (fun c hc => ?_)
          rw [if_pos hc, fsh_n hS hc]
        · have h1 : ¬ nI (R - j) ≤ nI 0 := h1
          rw [n_ge (by omega) (by omega)] at h1
          refine Exists.intro (100 + 10 * (R - j) + 6) (And.intro (by omega) (Exists.intro j (Exists.intro v (Exists.intro 0 ⟨rfl, by omega, by omega, hv, hbit, hcnt, rfl, rfl, rfl⟩))))
      · obtain ⟨j, v, i, rfl, hj, hi, hv, hbit, hcnt, rfl, rfl, rfl⟩ := hi
        refine ⟨90, And.intro (fun h1 => ?_) (fun h1 => ?_)⟩
        · have h1 : nI 6 ≤ nI i := h1
          rw [n_ge (by decide) (by omega)] at h1
          have e6 : i = 6 := by omega
          subst e6
          obtain ⟨g1, g2⟩ := gS_ok (fun c => k * L c % A) (fun c => v.testBit c) 6
          cases hg : gS (fun c => k * L c % A) (fun c => v.testBit c) 6 with
          | none =>
            exfalso
            obtain ⟨d, hd, hd1, hd2⟩ := rk_some hcnt (fun d _ => hrlt d) hS.2.2.2.2.2.2 hj
            have := g1 hg d hd (by show v.testBit d = false; rw [hbit d hd]; exact decide_eq_false hd1)
            omega
          | some b =>
            obtain ⟨k1, k2, k3, k4⟩ := g2 b hg
            have k2 : v.testBit b = false := k2
            have hbn : ¬ rk (fun c => k * L c % A) b < j := by
              rw [hbit b k1] at k2
              exact of_decide_eq_false k2
            obtain ⟨r1, r2, r3⟩ := rk_next hcnt k1 hbn (fun d hd hdn hne => k4 d hd (by show v.testBit d = false; rw [hbit d hd]; exact decide_eq_false hdn) hne)
            obtain ⟨s1, s2, s3⟩ := mk_set v hv b k1
            have eb : (gV (fun c => k * L c % A) (some b)).1 = nI b := rfl
            refine And.intro kd_492 (And.intro rfl (And.intro ?_ (And.intro kd_492 (And.intro rfl (And.intro ?_ ?_)))))
            · rw [eb]; exact vPS hp k1
            · rw [eb]; exact vPS hp k1
            refine Exists.intro (100 + 10 * (R - (j + 1)) + 9) (And.intro (by omega) (Exists.intro (j + 1) (Exists.intro (v ||| 2 ^ b) ⟨rfl, by omega, s2, fun c hc => ?_, r2, ?_, rfl, ?_⟩)))
            · rw [s3 c hc, hbit c hc]
              by_cases z : rk (fun c => k * L c % A) c < j
              · rw [decide_eq_true z, decide_eq_true (show rk (fun c => k * L c % A) c < j + 1 by omega)]; rfl
              · rw [decide_eq_false z, Bool.false_or]
                by_cases e : c = b
                · rw [decide_eq_true e, decide_eq_true ((r3 c hc).mpr (Or.inr e))]
                · rw [decide_eq_false e, decide_eq_false (fun y => ((r3 c hc).mp y).elim z e)]
            · show [some (Value.ref (B + 492)), some (Value.int (nI p)), some (Value.int (nI k)), some (Value.int (nI A)), some (Value.int (nI (R - j) + (-1))), some (Value.int (nI v ||| (1 : Int32) <<< (nI b &&& 31))), none, none, none, none] = _
              rw [s1, show R - j = (R - (j + 1)) + 1 by omega, pk_m1]
            · show mK B (mK B M _) (upd (mS B (mK B M _)) ((37 : Int32) + 20 * nI p + (14 + nI b)).toNatClampNeg (mS B (mK B M _) ((37 : Int32) + 20 * nI p + (14 + nI b)).toNatClampNeg + 1)) = _
              rw [pxS, n_cl (by omega), mS_K, mK_K, shF_get k1, shF_put k1]
              refine congrArg (mK B M) (shF_cg (fun c hc => ?_))
              unfold upd
              by_cases e : c = b
              · subst e
                rw [if_pos rfl, if_neg hbn, if_pos ((r3 c hc).mpr (Or.inr rfl)), nI_1]
              · rw [if_neg e]
                dsimp only
                by_cases z : rk (fun c => k * L c % A) c < j
                · rw [if_pos z, if_pos (by omega)]
                · rw [if_neg z, if_neg (fun y => ((r3 c hc).mp y).elim z e)]
        · have h1 : ¬ nI 6 ≤ nI i := h1
          rw [n_ge (by decide) (by omega)] at h1
          have hlg : nI k * mS B (mK B M (shF (mS B M) p (fun c => nI (k * L c / A + (if rk (fun c => k * L c % A) c < j then 1 else 0))))) ((37 : Int32) + 20 * nI p + (8 + nI i)).toNatClampNeg = nI (k * L i) := by
            rw [pxL, n_cl (by omega)]
            rw [mS_K, shF_off (by omega)]
            have := (hS.1 i (by omega)).2
            unfold sP at this
            rw [this, n_mul]
          have key : ∀ o : Option Nat, gS (fun c => k * L c % A) (fun c => v.testBit c) (i + 1) = o → ∃ n', n' < 100 + 10 * (R - j) + (6 - i) ∧ ∃ j' v' i', n' = 100 + 10 * (R - j') + (6 - i') ∧ j' < R ∧ i' ≤ 6 ∧ v' < 64 ∧ (∀ c, c < 6 → v'.testBit c = decide (rk (fun c => k * L c % A) c < j')) ∧ cB (fun c => decide (rk (fun c => k * L c % A) c < j')) 6 = j' ∧ [some (Value.ref (B + 492)), some (Value.int (nI p)), some (Value.int (nI k)), some (Value.int (nI A)), some (Value.int (nI (R - j))), some (Value.int (nI v)), some (Value.int (gV (fun c => k * L c % A) o).1), some (Value.int (gV (fun c => k * L c % A) o).2), some (Value.int (nI i + 1)), none] = [some (.ref (B + 492)), some (.int (nI p)), some (.int (nI k)), some (.int (nI A)), some (.int (nI (R - j'))), some (.int (nI v')), some (.int (gV (fun c => k * L c % A) (gS (fun c => k * L c % A) (fun c => v'.testBit c) i')).1), some (.int (gV (fun c => k * L c % A) (gS (fun c => k * L c % A) (fun c => v'.testBit c) i')).2), some (.int (nI i')), none] ∧ ([] : List Value) = [] ∧ (mK B M (shF (mS B M) p (fun c => nI (k * L c / A + (if rk (fun c => k * L c % A) c < j then 1 else 0))))) = mK B M (shF (mS B M) p (fun c => nI (k * L c / A + (if rk (fun c => k * L c % A) c < j' then 1 else 0)))) := by
            intro o ho
            exact ⟨100 + 10 * (R - j) + (6 - (i + 1)), by omega, j, v, i + 1, rfl, hj, by omega, hv, hbit, hcnt, by rw [ho, nI_1], rfl, rfl⟩
          have hmr : nI (k * L i) - nI (k * L i) / nI A * nI A = nI (k * L i % A) := pk_rem (kL_lt hS (by omega)) hA (by omega)
          have hmost : ∃ w, w < 1000000 ∧ (gV (fun c => k * L c % A) (gS (fun c => k * L c % A) (fun c => v.testBit c) i)).2 = nI w ∧ w = (match gS (fun c => k * L c % A) (fun c => v.testBit c) i with | none => 0 | some b => k * L b % A) := by
            cases gS (fun c => k * L c % A) (fun c => v.testBit c) i with
            | none => exact ⟨0, by omega, rfl, rfl⟩
            | some b => exact ⟨k * L b % A, by have := hrlt b; omega, rfl, rfl⟩
          obtain ⟨w, hw1, hw2, hw3⟩ := hmost
          have hri := hrlt i
          refine And.intro kd_492 (And.intro rfl (And.intro (vPL hp (by omega)) ?_))
          refine And.intro (fw_sd_i (fun z => ?_)) ?_
          · have z : nI A = nI 0 := z
            rw [nI_eq (by omega) (by omega)] at z
            omega
          refine And.intro (fun h2 => ?_) (fun h2 => ?_)
          · have h2 : ¬ (nI v >>> (nI i &&& 31)) &&& 1 = 0 := h2
            refine key _ ?_
            rw [gS, if_neg]
            rintro ⟨z, -⟩
            exact h2 ((mk_bit v hv i (by omega)).mpr z)
          · have h2 : (nI v >>> (nI i &&& 31)) &&& 1 = 0 := h2
            have h2 := (mk_bit v hv i (by omega)).mp h2
            refine And.intro (fun h3 => ?_) (fun h3 => ?_)
            · have h3 : nI k * mS B (mK B M _) ((37 : Int32) + 20 * nI p + (8 + nI i)).toNatClampNeg - nI k * mS B (mK B M _) ((37 : Int32) + 20 * nI p + (8 + nI i)).toNatClampNeg / nI A * nI A ≤ (gV (fun c => k * L c % A) (gS (fun c => k * L c % A) (fun c => v.testBit c) i)).2 := h3
              rw [hlg, hmr, hw2, n_ge (by omega) (by omega)] at h3
              refine key _ ?_
              rw [gS, if_neg]
              rintro ⟨-, z⟩
              have z2 : w < k * L i % A := by rw [hw3]; exact z
              omega
            · have h3 : ¬ nI k * mS B (mK B M _) ((37 : Int32) + 20 * nI p + (8 + nI i)).toNatClampNeg - nI k * mS B (mK B M _) ((37 : Int32) + 20 * nI p + (8 + nI i)).toNatClampNeg / nI A * nI A ≤ (gV (fun c => k * L c % A) (gS (fun c => k * L c % A) (fun c => v.testBit c) i)).2 := h3
              rw [hlg, hmr, hw2, n_ge (by omega) (by omega)] at h3
              have z2 : w < k * L i % A := by omega
              rw [hw3] at z2
              have hk := key (some i) (by rw [gS, if_pos ⟨h2, z2⟩])
              have e2 : (gV (fun c => k * L c % A) (some i)).2 = nI k * mS B (mK B M (shF (mS B M) p (fun c => nI (k * L c / A + (if rk (fun c => k * L c % A) c < j then 1 else 0))))) ((37 : Int32) + 20 * nI p + (8 + nI i)).toNatClampNeg - nI k * mS B (mK B M (shF (mS B M) p (fun c => nI (k * L c / A + (if rk (fun c => k * L c % A) c < j then 1 else 0))))) ((37 : Int32) + 20 * nI p + (8 + nI i)).toNatClampNeg / nI A * nI A := by
                rw [hlg, hmr]
                rfl
              rw [e2] at hk
              exact hk
      · obtain ⟨i, rfl, hi, rfl, rfl, rfl⟩ := hi
        have e2 : mS B (mK B M (tipW (shW (mS B M) p (nI k) 6) p i)) 2 = nI N := by
          rw [mS_K, tipW_lo (by omega), shW_lo (by omega), hn]
        refine ⟨60, And.intro kd_492 (And.intro kd_493 (And.intro (vn_493 (i := 2) (by decide)) (And.intro (fun h1 => ?_) (fun h1 => ?_))))⟩
        · have h1 : mS B (mK B M (tipW (shW (mS B M) p (nI k) 6) p i)) 2 ≤ nI i := h1
          rw [e2, n_ge (by omega) (by omega)] at h1
          unfold shareS at h
          rw [hN] at h
          rw [show i = N by omega]
          exact h
        · have h1 : ¬ mS B (mK B M (tipW (shW (mS B M) p (nI k) 6) p i)) 2 ≤ nI i := h1
          rw [e2, n_ge (by omega) (by omega)] at h1
          refine And.intro kd_492 (And.intro rfl (And.intro (vC2 (by omega)) (And.intro kd_492 (And.intro rfl (And.intro (vPS hp (by omega)) (And.intro kd_492 (And.intro rfl (And.intro (vC2 (by omega)) ?_))))))))
          refine Exists.intro (N - (i + 1)) (And.intro (by omega) (Exists.intro (i + 1) ⟨rfl, by omega, ?_, rfl, ?_⟩))
          · show [some (Value.ref (B + 492)), some (Value.int (nI p)), none, none, none, none, some (Value.int (nI i + 1)), none, none, none] = _
            rw [nI_1]
          · show mK B (mK B M _) (upd (mS B (mK B M _)) ((7 : Int32) + 5 * nI i + 2).toNatClampNeg (mS B (mK B M _) ((7 : Int32) + 5 * nI i + 2).toNatClampNeg + mS B (mK B M _) ((37 : Int32) + 20 * nI p + (14 + nI i)).toNatClampNeg)) = _
            rw [cx2, pxS, n_cl (by omega), n_cl (by omega), mS_K, mK_K]
            rfl
  · exact h.elim
end WS
end
section
/-! A TICK KEEPS STATES WELL -/
section PU
theorem gCC {S : Sx} {c d w x : Nat} {v : Int32} (hx : x < 5) (hw : w < 5) : sC (uC S c w v) d x = if d = c ∧ x = w then v else sC S d x := by
  unfold sC uC upd
  by_cases h : d = c ∧ x = w
  · rw [if_pos h, if_pos (by omega)]
  · rw [if_neg h, if_neg (by omega)]
theorem gPP {S : Sx} {p q w x : Nat} {v : Int32} (hx : x < 20) (hw : w < 20) : sP (uP S p w v) q x = if q = p ∧ x = w then v else sP S q x := by
  unfold sP uP upd
  by_cases h : q = p ∧ x = w
  · rw [if_pos h, if_pos (by omega)]
  · rw [if_neg h, if_neg (by omega)]
theorem gCP {S : Sx} {p c w x : Nat} {v : Int32} (hc : c < 6) (hx : x < 5) : sC (uP S p w v) c x = sC S c x := upd_n (by omega)
theorem gPC {S : Sx} {p c w x : Nat} {v : Int32} (hc : c < 6) (hw : w < 5) : sP (uC S c w v) p x = sP S p x := upd_n (by omega)
theorem gCu {S : Sx} {c k x : Nat} {v : Int32} (hk : k < 7) : sC (upd S k v) c x = sC S c x := upd_n (by omega)
theorem gPu {S : Sx} {p k x : Nat} {v : Int32} (hk : k < 37) : sP (upd S k v) p x = sP S p x := upd_n (by omega)
theorem frS_C {S : Sx} {c d x : Nat} (hx : x < 5) : sC (frS S c) d x = if d = c ∧ x = 4 then -1 else if d = c ∧ x = 3 then 0 else sC S d x := by
  unfold frS
  rw [gCC hx (by decide), gCC hx (by decide)]
theorem frS_P {S : Sx} {c p x : Nat} (hc : c < 6) : sP (frS S c) p x = sP S p x := by
  unfold frS
  rw [gPC hc (by decide), gPC hc (by decide)]
theorem tipW_C {S : Sx} {p d x : Nat} (hx : x < 5) (h2 : x ≠ 2) : ∀ i, sC (tipW S p i) d x = sC S d x := by
  intro i
  induction i with
  | zero => rfl
  | succ i ih => unfold tipW; rw [gCC hx (by decide), if_neg (by omega), ih]
theorem tipW_P {S : Sx} {p q x : Nat} : ∀ i, i ≤ 6 → sP (tipW S p i) q x = sP S q x := by
  intro i
  induction i with
  | zero => intro _; rfl
  | succ i ih => intro h; unfold tipW; rw [gPC (by omega) (by decide), ih (by omega)]
theorem shW_C {S : Sx} {p d x : Nat} {m : Int32} (hd : d < 6) (hx : x < 5) : ∀ i, sC (shW S p m i) d x = sC S d x := by
  intro i
  induction i with
  | zero => rfl
  | succ i ih => unfold shW; rw [gCP hd hx, ih]
theorem shW_P {S : Sx} {p q x : Nat} {m : Int32} (hx : x < 14) : ∀ i, i ≤ 6 → sP (shW S p m i) q x = sP S q x := by
  intro i
  induction i with
  | zero => intro _; rfl
  | succ i ih => intro h; unfold shW; rw [gPP (by omega) (by omega), if_neg (by omega), ih (by omega)]
theorem shareS_C {S : Sx} {p d x : Nat} {m : Int32} (hd : d < 6) (hx : x < 5) (h2 : x ≠ 2) : sC (shareS S p m) d x = sC S d x := by
  unfold shareS
  rw [tipW_C hx h2, shW_C hd hx]
theorem shareS_P {S : Sx} {p q x : Nat} {m : Int32} (hn : cn S ≤ 6) (hx : x < 14) : sP (shareS S p m) q x = sP S q x := by
  unfold shareS
  rw [tipW_P _ hn, shW_P hx 6 (Nat.le_refl _)]
theorem shareS_lo {S : Sx} {p k : Nat} {m : Int32} (h : k < 7) : shareS S p m k = S k := by
  unfold shareS
  rw [tipW_lo h, shW_lo (by omega)]
theorem cn_eq {S S' : Sx} (h : S' 2 = S 2) : cn S' = cn S := by unfold cn; rw [h]
theorem pn_eq {S S' : Sx} (h : S' 3 = S 3) : pn S' = pn S := by unfold pn; rw [h]
/-- what delS writes before the shares -/
def dl1 (S : Sx) (p : Nat) : Sx := upd (uP (uP (uP S p 4 2) p 6 (S 0)) p 7 (payS S p)) 6 (S 6 + payS S p)
theorem delS_eq {S : Sx} {c p : Nat} : delS S c p = frS (shareS (dl1 S p) p (payS S p)) c := rfl
theorem dl1_lo {S : Sx} {p k : Nat} (h : k < 6) : dl1 S p k = S k := by
  unfold dl1
  rw [upd_n (by omega), uP_lo (by omega), uP_lo (by omega), uP_lo (by omega)]
theorem dl1_C {S : Sx} {p d x : Nat} (hd : d < 6) (hx : x < 5) : sC (dl1 S p) d x = sC S d x := by
  unfold dl1
  rw [gCu (by decide), gCP hd hx, gCP hd hx, gCP hd hx]
theorem dl1_P {S : Sx} {p q x : Nat} (hx : x < 20) (h6 : x ≠ 6) (h7 : x ≠ 7) : sP (dl1 S p) q x = if q = p ∧ x = 4 then 2 else sP S q x := by
  unfold dl1
  rw [gPu (by decide), gPP hx (by decide), if_neg (by omega), gPP hx (by decide), if_neg (by omega), gPP hx (by decide)]
theorem delS_lo {S : Sx} {c p k : Nat} (h : k < 6) : delS S c p k = S k := by
  rw [delS_eq, frS_lo (by omega), shareS_lo (by omega), dl1_lo h]
theorem delS_C {S : Sx} {c p d x : Nat} (hd : d < 6) (hx : x < 5) (h2 : x ≠ 2) : sC (delS S c p) d x = if d = c ∧ x = 4 then -1 else if d = c ∧ x = 3 then 0 else sC S d x := by
  rw [delS_eq, frS_C hx, shareS_C hd hx h2, dl1_C hd hx]
theorem delS_P {S : Sx} {c p q x : Nat} (hc : c < 6) (hn : cn S ≤ 6) (hx : x < 14) (h6 : x ≠ 6) (h7 : x ≠ 7) : sP (delS S c p) q x = if q = p ∧ x = 4 then 2 else sP S q x := by
  rw [delS_eq, frS_P hc, shareS_P (by rw [cn_eq (dl1_lo (by decide))]; exact hn) hx, dl1_P (by omega) h6 h7]
theorem legS_lo {S : Sx} {c p k : Nat} {z : Int32} (h : k < 5) : legS S c p z k = S k := by
  unfold legS
  rw [uP_lo (by omega), uP_lo (by omega), upd_n (by omega), uC_lo (by omega)]
theorem legS_C {S : Sx} {c p d x : Nat} {z : Int32} (hd : d < 6) (hx : x < 5) : sC (legS S c p z) d x = if d = c ∧ x = 1 then z else sC S d x := by
  unfold legS
  rw [gCP hd hx, gCP hd hx, gCu (by decide), gCC hx (by decide)]
theorem legS_P {S : Sx} {c p q x : Nat} {z : Int32} (hc : c < 6) (hx : x < 20) : sP (legS S c p z) q x = if q = p ∧ x = 8 + c then sP S p (8 + c) + 1 else if q = p ∧ x = 5 then z else sP S q x := by
  unfold legS
  rw [gPP hx (by omega), gPP hx (by decide), gPu (by decide), gPC hc (by decide)]
/-- one courier has acted: what is enough -/
theorem WF_step {b b' : Nat} {S S' : Sx} {c : Nat} (h : WF b S) (hc : c < cn S) (e2 : S' 2 = S 2) (e3 : S' 3 = S 3)
    (hC : ∀ d, d < 6 → d ≠ c → sC S' d 1 = sC S d 1 ∧ sC S' d 3 = sC S d 3 ∧ sC S' d 4 = sC S d 4) (hz : ∃ z, z < 16 ∧ sC S' c 1 = nI z)
    (hl : (sC S' c 3 = 0 ∧ sC S' c 4 = -1) ∨ ∃ p, p < pn S ∧ sC S' c 4 = nI p ∧ (sC S' c 3 = 1 ∨ (sC S' c 3 = 2 ∧ sP S' p 4 = 1)))
    (hst : ∀ q, q < pn S → sP S' q 4 = sP S q 4 ∨ ∀ d, d < cn S → d ≠ c → ¬ (sC S d 3 = 2 ∧ sC S d 4 = nI q))
    (hu : sC S' c 3 = 2 → ∀ d, d < cn S → d ≠ c → ¬ (sC S d 3 = 2 ∧ sC S d 4 = sC S' c 4)) (hp : ∀ q, q < pn S → WFp b' S' q) : WF b' S' := by
  obtain ⟨h1, h2, h3, h4, h5, h6, h7⟩ := h
  have en := cn_eq e2
  have em := pn_eq e3
  refine ⟨by rw [e2, en]; exact h1, by rw [en]; exact h2, by rw [e3, em]; exact h3, by rw [em]; exact h4, ?_, ?_, by rw [em]; exact hp⟩
  · rw [en]
    intro d hd
    by_cases e : d = c
    · subst e
      exact ⟨hz, by rw [em]; exact hl⟩
    · obtain ⟨k1, k2, k3⟩ := hC d (by omega) e
      obtain ⟨z1, z2⟩ := h5 d hd
      refine ⟨by rw [k1]; exact z1, ?_⟩
      rw [k2, k3, em]
      rcases z2 with z2 | ⟨p, q1, q2, q3⟩
      · exact Or.inl z2
      · refine Or.inr ⟨p, q1, q2, ?_⟩
        rcases q3 with q3 | ⟨q3, q4⟩
        · exact Or.inl q3
        · refine Or.inr ⟨q3, ?_⟩
          rcases hst p q1 with y | y
          · rw [y]; exact q4
          · exact absurd ⟨q3, q2⟩ (y d hd e)
  · rw [en]
    intro d d' hd hd' k1 k2 k3
    by_cases e : d = c
    · by_cases e' : d' = c
      · omega
      · exfalso
        subst e
        obtain ⟨y1, y2, y3⟩ := hC d' (by omega) e'
        exact hu k1 d' hd' e' ⟨by rw [← y2]; exact k2, by rw [← y3]; exact k3.symm⟩
    · obtain ⟨x1, x2, x3⟩ := hC d (by omega) e
      by_cases e' : d' = c
      · exfalso
        subst e'
        exact hu k2 d hd e ⟨by rw [← x2]; exact k1, by rw [← x3]; exact k3⟩
      · obtain ⟨y1, y2, y3⟩ := hC d' (by omega) e'
        exact h6 d d' hd hd' (by rw [← x2]; exact k1) (by rw [← y2]; exact k2) (by rw [← x3, ← y3]; exact k3)
theorem WFp_le {b b' : Nat} {S S' : Sx} {q : Nat} (hb : b ≤ b') (h : WFp b S q) (e : ∀ x, x < 14 → x ≠ 4 → x ≠ 6 → x ≠ 7 → sP S' q x = sP S q x) (h4 : ∃ k, k ≤ 3 ∧ sP S' q 4 = nI k) : WFp b' S' q := by
  obtain ⟨h0, h2, h3, -, h5, hl⟩ := h
  refine ⟨?_, ?_, ?_, h4, ?_, fun c hc => ?_⟩
  · rw [e 0 (by decide) (by decide) (by decide) (by decide), e 1 (by decide) (by decide) (by decide) (by decide)]; exact h0
  · rw [e 2 (by decide) (by decide) (by decide) (by decide)]; exact h2
  · rw [e 3 (by decide) (by decide) (by decide) (by decide)]; exact h3
  · rw [e 5 (by decide) (by decide) (by decide) (by decide)]; exact h5
  · rw [e (8 + c) (by omega) (by omega) (by omega) (by omega)]
    obtain ⟨k, hk, hk2⟩ := hl c hc
    exact ⟨k, by omega, hk2⟩
theorem nxz_in : ∀ f, f < 16 → ∀ t, t < 16 → ∃ z, z < 16 ∧ nxz (nI f) (nI t) = nI z := by decide +kernel
theorem n0 : (0 : Int32) = nI 0 := rfl
theorem n1 : (1 : Int32) = nI 1 := rfl
theorem n2 : (2 : Int32) = nI 2 := rfl
theorem n3 : (3 : Int32) = nI 3 := rfl
theorem WF_frees {b : Nat} {S : Sx} {c p : Nat} (h : WF b S) (hc : c < cn S) (h3 : sC S c 3 = 2) (h4 : sC S c 4 = nI p) (hp : p < pn S) (v : Int32) : WF b (frS (upd (uP S p 4 0) 4 v) c) := by
  have hn6 := h.2.1
  refine WF_step (S := S) h hc ?_ ?_ (fun d hd hne => ?_) ?_ (Or.inl ?_) (fun q hq => ?_) (fun z => ?_) (fun q hq => ?_)
  · rw [frS_lo (by decide), upd_n (by decide), uP_lo (by decide)]
  · rw [frS_lo (by decide), upd_n (by decide), uP_lo (by decide)]
  · refine ⟨?_, ?_, ?_⟩ <;> rw [frS_C (by decide), if_neg (by omega), if_neg (by omega), gCu (by decide), gCP hd (by decide)]
  · obtain ⟨z, hz, ez⟩ := (h.2.2.2.2.1 c hc).1
    exact ⟨z, hz, by rw [frS_C (by decide), if_neg (by omega), if_neg (by omega), gCu (by decide), gCP (by omega) (by decide)]; exact ez⟩
  · refine ⟨?_, ?_⟩
    · rw [frS_C (by decide), if_neg (by omega), if_pos ⟨rfl, rfl⟩]
    · rw [frS_C (by decide), if_pos ⟨rfl, rfl⟩]
  · by_cases e : q = p
    · refine Or.inr fun d hd hne y => hne (h.2.2.2.2.2.1 d c hd hc y.1 h3 (by rw [y.2, h4, e]))
    · refine Or.inl ?_
      rw [frS_P (by omega), gPu (by decide), gPP (by decide) (by decide), if_neg (by omega)]
  · exfalso
    rw [frS_C (by decide), if_neg (by omega), if_pos ⟨rfl, rfl⟩] at z
    exact absurd z (by decide)
  · refine WFp_le (Nat.le_refl b) (h.2.2.2.2.2.2 q hq) (fun x hx k4 k6 k7 => ?_) ?_
    · rw [frS_P (by omega), gPu (by decide), gPP (by omega) (by decide), if_neg (by omega)]
    · rw [frS_P (by omega), gPu (by decide), gPP (by decide) (by decide)]
      by_cases e : q = p
      · rw [if_pos ⟨e, rfl⟩]; exact ⟨0, by decide, rfl⟩
      · rw [if_neg (by omega)]; exact (h.2.2.2.2.2.2 q hq).2.2.2.1
theorem WF_leg {b : Nat} {S : Sx} {c p z : Nat} (h : WF b S) (hc : c < cn S) (h3 : sC S c 3 = 2) (h4 : sC S c 4 = nI p) (hp : p < pn S) (hz : z < 16) : WF (b + 1) (legS S c p (nI z)) := by
  have hn6 := h.2.1
  have hp4 : sP S p 4 = 1 := by
    rcases (h.2.2.2.2.1 c hc).2 with ⟨y, -⟩ | ⟨p', q1, q2, q3⟩
    · rw [h3] at y; exact absurd y (by decide)
    · have : p' = p := by
        have hm := h.2.2.2.1
        rw [h4, nI_eq (by omega) (by omega)] at q2
        exact q2.symm
      subst this
      rcases q3 with y | y
      · rw [h3] at y; exact absurd y (by decide)
      · exact y.2
  refine WF_step (S := S) h hc (legS_lo (by decide)) (legS_lo (by decide)) (fun d hd hne => ?_) ?_ (Or.inr ⟨p, hp, ?_, Or.inr ⟨?_, ?_⟩⟩) (fun q hq => Or.inl ?_) (fun y d hd hne k => ?_) (fun q hq => ?_)
  · refine ⟨?_, ?_, ?_⟩ <;> rw [legS_C hd (by decide), if_neg (by omega)]
  · exact ⟨z, hz, by rw [legS_C (by omega) (by decide), if_pos ⟨rfl, rfl⟩]⟩
  · rw [legS_C (by omega) (by decide), if_neg (by omega)]; exact h4
  · rw [legS_C (by omega) (by decide), if_neg (by omega)]; exact h3
  · rw [legS_P (by omega) (by decide), if_neg (by omega), if_neg (by omega)]; exact hp4
  · rw [legS_P (by omega) (by decide), if_neg (by omega), if_neg (by omega)]
  · rw [legS_C (by omega) (by decide), if_neg (by omega)] at k
    exact hne (h.2.2.2.2.2.1 d c hd hc k.1 h3 k.2)
  · obtain ⟨q0, q2, q3, q4, q5, ql⟩ := h.2.2.2.2.2.2 q hq
    have g : ∀ x, x < 8 → x ≠ 5 → sP (legS S c p (nI z)) q x = sP S q x := fun x hx h5 => by rw [legS_P (by omega) (by omega), if_neg (by omega), if_neg (by omega)]
    refine ⟨by rw [g 0 (by decide) (by decide), g 1 (by decide) (by decide)]; exact q0, by rw [g 2 (by decide) (by decide)]; exact q2, by rw [g 3 (by decide) (by decide)]; exact q3, by rw [g 4 (by decide) (by decide)]; exact q4, ?_, fun d hd => ?_⟩
    · rw [legS_P (by omega) (by decide), if_neg (by omega)]
      by_cases e : q = p
      · rw [if_pos ⟨e, rfl⟩]; exact ⟨z, hz, rfl⟩
      · rw [if_neg (by omega)]; exact q5
    · rw [legS_P (by omega) (by omega)]
      by_cases e : q = p ∧ 8 + d = 8 + c
      · rw [if_pos e]
        obtain ⟨k, hk, hk2⟩ := ql c (by omega)
        refine ⟨k + 1, by omega, ?_⟩
        rw [← e.1, hk2, nI_1]
      · rw [if_neg e, if_neg (by omega)]
        obtain ⟨k, hk, hk2⟩ := ql d hd
        exact ⟨k, by omega, hk2⟩
theorem WF_del {b : Nat} {S : Sx} {c p : Nat} (h : WF b S) (hc : c < cn S) (h3 : sC S c 3 = 2) (h4 : sC S c 4 = nI p) (hp : p < pn S) : WF b (delS S c p) := by
  have hn6 := h.2.1
  refine WF_step (S := S) h hc (delS_lo (by decide)) (delS_lo (by decide)) (fun d hd hne => ?_) ?_ (Or.inl ?_) (fun q hq => ?_) (fun z => ?_) (fun q hq => ?_)
  · refine ⟨?_, ?_, ?_⟩ <;> rw [delS_C hd (by decide) (by decide), if_neg (by omega), if_neg (by omega)]
  · obtain ⟨z, hz, ez⟩ := (h.2.2.2.2.1 c hc).1
    exact ⟨z, hz, by rw [delS_C (by omega) (by decide) (by decide), if_neg (by omega), if_neg (by omega)]; exact ez⟩
  · refine ⟨?_, ?_⟩
    · rw [delS_C (by omega) (by decide) (by decide), if_neg (by omega), if_pos ⟨rfl, rfl⟩]
    · rw [delS_C (by omega) (by decide) (by decide), if_pos ⟨rfl, rfl⟩]
  · by_cases e : q = p
    · refine Or.inr fun d hd hne y => hne (h.2.2.2.2.2.1 d c hd hc y.1 h3 (by rw [y.2, h4, e]))
    · refine Or.inl ?_
      rw [delS_P (by omega) hn6 (by decide) (by decide) (by decide), if_neg (by omega)]
  · exfalso
    rw [delS_C (by omega) (by decide) (by decide), if_neg (by omega), if_pos ⟨rfl, rfl⟩] at z
    exact absurd z (by decide)
  · refine WFp_le (Nat.le_refl b) (h.2.2.2.2.2.2 q hq) (fun x hx k4 k6 k7 => ?_) ?_
    · rw [delS_P (by omega) hn6 hx k6 k7, if_neg (by omega)]
    · rw [delS_P (by omega) hn6 (by decide) (by decide) (by decide)]
      by_cases e : q = p
      · rw [if_pos ⟨e, rfl⟩]; exact ⟨2, by decide, rfl⟩
      · rw [if_neg (by omega)]; exact (h.2.2.2.2.2.2 q hq).2.2.2.1
theorem WF_up {b b' : Nat} {S : Sx} (hb : b ≤ b') (h : WF b S) : WF b' S := by
  obtain ⟨h1, h2, h3, h4, h5, h6, h7⟩ := h
  refine ⟨h1, h2, h3, h4, h5, h6, fun q hq => WFp_le hb (h7 q hq) (fun _ _ _ _ _ => rfl) (h7 q hq).2.2.2.1⟩
theorem WF_car {b : Nat} {S : Sx} {c p : Nat} (h : WF b S) (hc : c < cn S) (h3 : sC S c 3 = 2) (h4 : sC S c 4 = nI p) (hp : p < pn S) : WF (b + 1) (carS S c p) := by
  have hn6 := h.2.1
  obtain ⟨f, hf, ef⟩ := (h.2.2.2.2.1 c hc).1
  obtain ⟨o, d, ho, hd, -, -, ed⟩ := (h.2.2.2.2.2.2 p hp).1
  obtain ⟨z, hz, ez⟩ := nxz_in f hf d hd
  have hleg := WF_leg h hc h3 h4 hp hz
  unfold carS
  rw [ef, ed, ez]
  split
  · split
    · refine WF_del hleg (by rw [cn_eq (legS_lo (by decide))]; exact hc) ?_ ?_ (by rw [pn_eq (legS_lo (by decide))]; exact hp)
      · rw [legS_C (by omega) (by decide), if_neg (by omega)]; exact h3
      · rw [legS_C (by omega) (by decide), if_neg (by omega)]; exact h4
    · exact hleg
  · exact WF_up (by omega) (WF_frees h hc h3 h4 hp _)
theorem WF_go {b : Nat} {S : Sx} {c p : Nat} (h : WF b S) (hc : c < cn S) (h3 : sC S c 3 = 1) (h4 : sC S c 4 = nI p) (hp : p < pn S) (hs : sP S p 4 = 0) : WF b (goS S c p) := by
  have hn6 := h.2.1
  unfold goS
  split
  · refine WF_step (S := S) h hc ?_ ?_ (fun d hd hne => ?_) ?_ (Or.inr ⟨p, hp, ?_, Or.inr ⟨?_, ?_⟩⟩) (fun q hq => ?_) (fun y d hd hne k => ?_) (fun q hq => ?_)
    · rw [uP_lo (by decide), uC_lo (by decide)]
    · rw [uP_lo (by decide), uC_lo (by decide)]
    · refine ⟨?_, ?_, ?_⟩ <;> rw [gCP hd (by decide), gCC (by decide) (by decide), if_neg (by omega)]
    · obtain ⟨z, hz, ez⟩ := (h.2.2.2.2.1 c hc).1
      exact ⟨z, hz, by rw [gCP (by omega) (by decide), gCC (by decide) (by decide), if_neg (by omega)]; exact ez⟩
    · rw [gCP (by omega) (by decide), gCC (by decide) (by decide), if_neg (by omega)]; exact h4
    · rw [gCP (by omega) (by decide), gCC (by decide) (by decide), if_pos ⟨rfl, rfl⟩]
    · rw [gPP (by decide) (by decide), if_pos ⟨rfl, rfl⟩]
    · by_cases e : q = p
      · refine Or.inr fun d hd hne y => ?_
        rcases (h.2.2.2.2.1 d hd).2 with ⟨w, -⟩ | ⟨p', q1, q2, q3⟩
        · rw [y.1] at w; exact absurd w (by decide)
        · have hm := h.2.2.2.1
          rw [y.2, nI_eq (by omega) (by omega)] at q2
          rcases q3 with w | w
          · rw [y.1] at w; exact absurd w (by decide)
          · rw [← q2, e, hs] at w
            exact absurd w.2 (by decide)
      · refine Or.inl ?_
        rw [gPP (by decide) (by decide), if_neg (by omega), gPC (by omega) (by decide)]
    · rw [gCP (by omega) (by decide), gCC (by decide) (by decide), if_neg (by omega), h4] at k
      rcases (h.2.2.2.2.1 d hd).2 with ⟨w, -⟩ | ⟨p', q1, q2, q3⟩
      · rw [k.1] at w; exact absurd w (by decide)
      · have hm := h.2.2.2.1
        rw [k.2, nI_eq (by omega) (by omega)] at q2
        rcases q3 with w | w
        · rw [k.1] at w; exact absurd w (by decide)
        · rw [← q2, hs] at w
          exact absurd w.2 (by decide)
    · refine WFp_le (Nat.le_refl b) (h.2.2.2.2.2.2 q hq) (fun x hx k4 k6 k7 => ?_) ?_
      · rw [gPP (by omega) (by decide), if_neg (by omega), gPC (by omega) (by decide)]
      · rw [gPP (by decide) (by decide)]
        by_cases e : q = p
        · rw [if_pos ⟨e, rfl⟩]; exact ⟨1, by decide, rfl⟩
        · rw [if_neg (by omega), gPC (by omega) (by decide)]; exact (h.2.2.2.2.2.2 q hq).2.2.2.1
  · obtain ⟨f, hf, ef⟩ := (h.2.2.2.2.1 c hc).1
    obtain ⟨z5, hz5, ez5⟩ := (h.2.2.2.2.2.2 p hp).2.2.2.2.1
    obtain ⟨z, hz, ez⟩ := nxz_in f hf z5 hz5
    rw [ef, ez5, ez]
    refine WF_step (S := S) h hc ?_ ?_ (fun d hd hne => ?_) ⟨z, hz, ?_⟩ ?_ (fun q hq => Or.inl ?_) (fun y d hd hne k => ?_) (fun q hq => ?_)
    · rw [upd_n (by decide), uC_lo (by decide)]
    · rw [upd_n (by decide), uC_lo (by decide)]
    · refine ⟨?_, ?_, ?_⟩ <;> rw [gCu (by decide), gCC (by decide) (by decide), if_neg (by omega)]
    · rw [gCu (by decide), gCC (by decide) (by decide), if_pos ⟨rfl, rfl⟩]
    · refine Or.inr ⟨p, hp, ?_, Or.inl ?_⟩
      · rw [gCu (by decide), gCC (by decide) (by decide), if_neg (by omega)]; exact h4
      · rw [gCu (by decide), gCC (by decide) (by decide), if_neg (by omega)]; exact h3
    · rw [gPu (by decide), gPC (by omega) (by decide)]
    · rw [gCu (by decide), gCC (by decide) (by decide), if_neg (by omega), h3] at y
      exact absurd y (by decide)
    · refine WFp_le (Nat.le_refl b) (h.2.2.2.2.2.2 q hq) (fun x hx k4 k6 k7 => ?_) ?_
      · rw [gPu (by decide), gPC (by omega) (by decide)]
      · rw [gPu (by decide), gPC (by omega) (by decide)]; exact (h.2.2.2.2.2.2 q hq).2.2.2.1
theorem WF_ch {b : Nat} {S : Sx} {c : Nat} (h : WF b S) (hc : c < cn S) : WF b (chS S c) := by
  have hn6 := h.2.1
  unfold chS
  have hz := (h.2.2.2.2.1 c hc).1
  have hm := h.2.2.2.1
  refine WF_step (S := S) h hc ?_ ?_ (fun d hd hne => ?_) ?_ ?_ (fun q hq => Or.inl ?_) (fun y d hd hne k => ?_) (fun q hq => ?_)
  · rw [uC_lo (by decide), uC_lo (by decide)]
  · rw [uC_lo (by decide), uC_lo (by decide)]
  · refine ⟨?_, ?_, ?_⟩ <;> rw [gCC (by decide) (by decide), if_neg (by omega), gCC (by decide) (by decide), if_neg (by omega)]
  · obtain ⟨z, hz, ez⟩ := hz
    exact ⟨z, hz, by rw [gCC (by decide) (by decide), if_neg (by omega), gCC (by decide) (by decide), if_neg (by omega)]; exact ez⟩
  · have e3 : sC (uC (uC S c 3 (if chB S c (pn S) = -1 then 0 else 1)) c 4 (chB S c (pn S))) c 3 = (if chB S c (pn S) = -1 then 0 else 1) := by
      rw [gCC (by decide) (by decide), if_neg (by omega), gCC (by decide) (by decide), if_pos ⟨rfl, rfl⟩]
    have e4 : sC (uC (uC S c 3 (if chB S c (pn S) = -1 then 0 else 1)) c 4 (chB S c (pn S))) c 4 = chB S c (pn S) := by
      rw [gCC (by decide) (by decide), if_pos ⟨rfl, rfl⟩]
    rw [e3, e4]
    rcases chB_ok S c (pn S) with e | ⟨q, hq, e⟩
    · rw [e, if_pos rfl]; exact Or.inl ⟨rfl, rfl⟩
    · rw [e, if_neg (nI_m1 (by omega))]; exact Or.inr ⟨q, hq, rfl, Or.inl rfl⟩
  · rw [gPC (by omega) (by decide), gPC (by omega) (by decide)]
  · rw [gCC (by decide) (by decide), if_neg (by omega), gCC (by decide) (by decide), if_pos ⟨rfl, rfl⟩] at y
    split at y <;> exact absurd y (by decide)
  · refine WFp_le (Nat.le_refl b) (h.2.2.2.2.2.2 q hq) (fun x hx k4 k6 k7 => ?_) ?_
    · rw [gPC (by omega) (by decide), gPC (by omega) (by decide)]
    · rw [gPC (by omega) (by decide), gPC (by omega) (by decide)]; exact (h.2.2.2.2.2.2 q hq).2.2.2.1
/-- with whom a courier does something: its parcel -/
theorem WF_with {b : Nat} {S : Sx} {c : Nat} (h : WF b S) (hc : c < cn S) (h3 : sC S c 3 ≠ 0) : ∃ p, p < pn S ∧ sC S c 4 = nI p ∧ (sC S c 4).toNatClampNeg = p := by
  rcases (h.2.2.2.2.1 c hc).2 with y | ⟨p, hp, e, -⟩
  · exact absurd y.1 h3
  · have hm := h.2.2.2.1
    exact ⟨p, hp, e, by rw [e, n_cl (by omega)]⟩
theorem WF_act {b : Nat} {S : Sx} {c : Nat} (h : WF b S) (hc : c < cn S) : WF (b + 1) (actS S c) := by
  unfold actS
  split
  · rename_i h3
    obtain ⟨p, hp, e1, e2⟩ := WF_with h hc (by rw [h3]; decide)
    rw [e2]
    exact WF_car h hc h3 e1 hp
  · split
    · rename_i h3
      obtain ⟨p, hp, e1, e2⟩ := WF_with h hc (by rw [h3.1]; decide)
      rw [e2] at h3 ⊢
      exact WF_up (by omega) (WF_go h hc h3.1 e1 hp h3.2)
    · exact WF_up (by omega) (WF_ch h hc)
theorem carS_lo {S : Sx} {c p k : Nat} (h : k < 4) : carS S c p k = S k := by
  unfold carS
  split
  · split
    · rw [delS_lo (by omega), legS_lo (by omega)]
    · rw [legS_lo (by omega)]
  · rw [frS_lo (by omega), upd_n (by omega), uP_lo (by omega)]
theorem goS_lo {S : Sx} {c p k : Nat} (h : k < 4) : goS S c p k = S k := by
  unfold goS
  split
  · rw [uP_lo (by omega), uC_lo (by omega)]
  · rw [upd_n (by omega), uC_lo (by omega)]
theorem chS_lo {S : Sx} {c k : Nat} (h : k < 7) : chS S c k = S k := by
  unfold chS
  rw [uC_lo h, uC_lo h]
theorem actS_lo {S : Sx} {c k : Nat} (h : k < 4) : actS S c k = S k := by
  unfold actS
  split
  · exact carS_lo h
  · split
    · exact goS_lo h
    · exact chS_lo (by omega)
theorem actW_lo {S : Sx} {k : Nat} (h : k < 4) : ∀ i, actW S i k = S k := by
  intro i
  induction i with
  | zero => rfl
  | succ i ih => unfold actW; rw [actS_lo h, ih]
theorem WF_actW {b : Nat} {S : Sx} (h : WF b S) : ∀ i, i ≤ cn S → WF (b + i) (actW S i) := by
  intro i
  induction i with
  | zero => intro _; exact h
  | succ i ih =>
    intro hi
    unfold actW
    exact WF_act (ih (by omega)) (by rw [cn_eq (actW_lo (by decide) i)]; exact hi)
theorem frW_lo {S : Sx} {p k : Nat} (h : k < 7) : ∀ i, frW S p i k = S k := by
  intro i
  induction i with
  | zero => rfl
  | succ i ih =>
    unfold frW
    split
    · rw [frS_lo h, ih]
    · exact ih
theorem frW_P {S : Sx} {p q x : Nat} : ∀ i, i ≤ 6 → sP (frW S p i) q x = sP S q x := by
  intro i
  induction i with
  | zero => intro _; rfl
  | succ i ih =>
    intro hi
    unfold frW
    split
    · rw [frS_P (by omega), ih (by omega)]
    · exact ih (by omega)
theorem frW_C {S : Sx} {p d x : Nat} (hx : x < 5) : ∀ i, sC (frW S p i) d x = if d < i ∧ sC S d 4 = nI p then (if x = 4 then -1 else if x = 3 then 0 else sC S d x) else sC S d x := by
  intro i
  induction i generalizing d x with
  | zero => rw [if_neg (by omega)]; rfl
  | succ i ih =>
    have e4 : sC (frW S p i) i 4 = sC S i 4 := by rw [ih (by decide), if_neg (by omega)]
    unfold frW
    rw [e4]
    by_cases h : sC S i 4 = nI p
    · rw [if_pos h, frS_C hx, ih hx]
      by_cases e : d = i
      · subst e
        rw [if_pos (show d < d + 1 ∧ sC S d 4 = nI p from ⟨Nat.lt_succ_self d, h⟩)]
        by_cases x4 : x = 4
        · rw [if_pos (show d = d ∧ x = 4 from ⟨rfl, x4⟩), if_pos x4]
        · rw [if_neg (show ¬ (d = d ∧ x = 4) from fun y => x4 y.2), if_neg x4]
          by_cases x3 : x = 3
          · rw [if_pos (show d = d ∧ x = 3 from ⟨rfl, x3⟩), if_pos x3]
          · rw [if_neg (show ¬ (d = d ∧ x = 3) from fun y => x3 y.2), if_neg x3, if_neg (show ¬ (d < d ∧ sC S d 4 = nI p) from fun y => Nat.lt_irrefl d y.1)]
      · rw [if_neg (show ¬ (d = i ∧ x = 4) from fun y => e y.1), if_neg (show ¬ (d = i ∧ x = 3) from fun y => e y.1)]
        by_cases e2 : d < i ∧ sC S d 4 = nI p
        · rw [if_pos e2, if_pos (show d < i + 1 ∧ sC S d 4 = nI p from ⟨by omega, e2.2⟩)]
        · rw [if_neg e2, if_neg (show ¬ (d < i + 1 ∧ sC S d 4 = nI p) from fun z => e2 ⟨by omega, z.2⟩)]
    · rw [if_neg h, ih hx]
      by_cases e2 : d < i ∧ sC S d 4 = nI p
      · rw [if_pos e2, if_pos (show d < i + 1 ∧ sC S d 4 = nI p from ⟨by omega, e2.2⟩)]
      · rw [if_neg e2, if_neg (show ¬ (d < i + 1 ∧ sC S d 4 = nI p) from fun z => e2 ⟨(by
          rcases Nat.lt_or_ge d i with y | y
          · exact y
          · have : d = i := by omega
            subst this
            exact absurd z.2 h), z.2⟩)]
theorem faiS_lo {S : Sx} {p k : Nat} (h : k < 7) : faiS S p k = S k := by
  unfold faiS
  rw [frW_lo h, uP_lo (by omega)]
theorem WF_fai {b : Nat} {S : Sx} {p : Nat} (h : WF b S) (hp : p < pn S) : WF b (faiS S p) := by
  obtain ⟨h1, h2, h3, h4, h5, h6, h7⟩ := h
  have e2 : faiS S p 2 = S 2 := faiS_lo (by decide)
  have e3 : faiS S p 3 = S 3 := faiS_lo (by decide)
  have en := cn_eq e2
  have em := pn_eq e3
  have eP : ∀ q x, x < 20 → sP (faiS S p) q x = if q = p ∧ x = 4 then 3 else sP S q x := fun q x hx => by
    unfold faiS
    rw [frW_P _ h2, gPP hx (by decide)]
  have eC : ∀ d x, d < cn S → x < 5 → sC (faiS S p) d x = if sC S d 4 = nI p then (if x = 4 then -1 else if x = 3 then 0 else sC S d x) else sC S d x := fun d x hd hx => by
    unfold faiS
    rw [frW_C hx, gCP (by omega) hx, gCP (by omega) (by decide)]
    by_cases z : sC S d 4 = nI p
    · rw [if_pos ⟨hd, z⟩, if_pos z]
    · rw [if_neg (fun y => z y.2), if_neg z]
  refine ⟨by rw [e2, en]; exact h1, by rw [en]; exact h2, by rw [e3, em]; exact h3, by rw [em]; exact h4, ?_, ?_, ?_⟩
  · rw [en]
    intro d hd
    obtain ⟨z1, z2⟩ := h5 d hd
    by_cases z : sC S d 4 = nI p
    · refine ⟨by rw [eC d 1 hd (by decide), if_pos z, if_neg (by decide), if_neg (by decide)]; exact z1, Or.inl ⟨?_, ?_⟩⟩
      · rw [eC d 3 hd (by decide), if_pos z]; rfl
      · rw [eC d 4 hd (by decide), if_pos z]; rfl
    · refine ⟨by rw [eC d 1 hd (by decide), if_neg z]; exact z1, ?_⟩
      rw [eC d 3 hd (by decide), eC d 4 hd (by decide), if_neg z, if_neg z, em]
      rcases z2 with z2 | ⟨q, q1, q2, q3⟩
      · exact Or.inl z2
      · refine Or.inr ⟨q, q1, q2, ?_⟩
        rcases q3 with q3 | ⟨q3, q4⟩
        · exact Or.inl q3
        · refine Or.inr ⟨q3, ?_⟩
          rw [eP q 4 (by decide), if_neg (fun y => z (by rw [q2, y.1]))]
          exact q4
  · rw [en]
    intro d d' hd hd' k1 k2 k3
    by_cases z : sC S d 4 = nI p
    · rw [eC d 3 hd (by decide), if_pos z, if_neg (by decide), if_pos rfl] at k1
      exact absurd k1 (by decide)
    · by_cases z' : sC S d' 4 = nI p
      · rw [eC d' 3 hd' (by decide), if_pos z', if_neg (by decide), if_pos rfl] at k2
        exact absurd k2 (by decide)
      · rw [eC d 3 hd (by decide), if_neg z] at k1
        rw [eC d' 3 hd' (by decide), if_neg z'] at k2
        rw [eC d 4 hd (by decide), eC d' 4 hd' (by decide), if_neg z, if_neg z'] at k3
        exact h6 d d' hd hd' k1 k2 k3
  · rw [em]
    intro q hq
    refine WFp_le (Nat.le_refl b) (h7 q hq) (fun x hx k4 _ _ => by rw [eP q x (by omega), if_neg (by omega)]) ?_
    rw [eP q 4 (by decide)]
    by_cases e : q = p
    · rw [if_pos ⟨e, rfl⟩]; exact ⟨3, by decide, rfl⟩
    · rw [if_neg (by omega)]; exact (h7 q hq).2.2.2.1
theorem flW_lo {S : Sx} {k : Nat} (h : k < 7) : ∀ i, flW S i k = S k := by
  intro i
  induction i with
  | zero => rfl
  | succ i ih =>
    unfold flW
    split
    · rw [faiS_lo h, ih]
    · exact ih
theorem WF_flW {b : Nat} {S : Sx} (h : WF b S) : ∀ i, i ≤ pn S → WF b (flW S i) := by
  intro i
  induction i with
  | zero => intro _; exact h
  | succ i ih =>
    intro hi
    unfold flW
    split
    · exact WF_fai (ih (by omega)) (by rw [pn_eq (flW_lo (by decide) i)]; exact hi)
    · exact ih (by omega)
theorem WF_time {b : Nat} {S : Sx} (v : Int32) (h : WF b S) : WF b (upd S 0 v) := by
  obtain ⟨h1, h2, h3, h4, h5, h6, h7⟩ := h
  have e2 : (upd S 0 v) 2 = S 2 := upd_n (by decide)
  have e3 : (upd S 0 v) 3 = S 3 := upd_n (by decide)
  have en := cn_eq e2
  have em := pn_eq e3
  have eC : ∀ d x, sC (upd S 0 v) d x = sC S d x := fun d x => gCu (by decide)
  have eP : ∀ q x, sP (upd S 0 v) q x = sP S q x := fun q x => gPu (by decide)
  refine ⟨by rw [e2, en]; exact h1, by rw [en]; exact h2, by rw [e3, em]; exact h3, by rw [em]; exact h4, ?_, ?_, ?_⟩
  · rw [en]
    intro d hd
    unfold WFc
    simp only [eC, eP, em]
    exact h5 d hd
  · rw [en]
    intro d d' hd hd'
    simp only [eC]
    exact h6 d d' hd hd'
  · rw [em]
    intro q hq
    exact WFp_le (Nat.le_refl b) (h7 q hq) (fun x _ _ _ _ => eP q x) (by rw [eP]; exact (h7 q hq).2.2.2.1)
theorem WF_tkA {b : Nat} {S : Sx} (h : WF b S) : WF (b + 6) (tkA S) := by
  unfold tkA
  have h1 := WF_time (S 0 + 1) h
  have e2 : cn (upd S 0 (S 0 + 1)) = cn S := cn_eq (upd_n (by decide))
  have h2 := h.2.1
  exact WF_up (by omega) (WF_actW h1 (cn S) (by rw [e2]; exact Nat.le_refl _))
theorem tkA_lo {S : Sx} {k : Nat} (h : k < 4) (h0 : k ≠ 0) : tkA S k = S k := by
  unfold tkA
  rw [actW_lo h, upd_n h0]
theorem WF_tick {b : Nat} {S : Sx} (h : WF b S) : WF (b + 6) (tickS S) := by
  unfold tickS
  exact WF_flW (WF_tkA h) _ (by rw [pn_eq (tkA_lo (by decide) (by decide))]; exact Nat.le_refl _)
theorem tickS_lo {S : Sx} {k : Nat} (h : k < 4) (h0 : k ≠ 0) : tickS S k = S k := by
  unfold tickS
  rw [flW_lo (by omega), tkA_lo h h0]
theorem WF_tkN {b : Nat} {S : Sx} (h : WF b S) : ∀ n, WF (b + 6 * n) (tkN S n) := by
  intro n
  induction n with
  | zero => exact h
  | succ n ih =>
    unfold tkN
    exact WF_up (by omega) (WF_tick ih)
end PU
end
section
/-! THE REFERENCE'S tick, walked -/
section WT
theorem LG_of {b : Nat} {S S' : Sx} {p : Nat} (hb : b ≤ 100000) (h : WFp b S p) (e : ∀ x, 8 ≤ x → x < 14 → sP S' p x = sP S p x) (hpos : ∃ c k, c < 6 ∧ 0 < k ∧ k < 2 ^ 31 ∧ sP S p (8 + c) = nI k) : LG S' p := by
  have hl := h.2.2.2.2.2
  have hch : ∀ c, ∃ k, c < 6 → k ≤ b ∧ sP S p (8 + c) = nI k := fun c => by
    by_cases hc : c < 6
    · obtain ⟨k, h1, h2⟩ := hl c hc
      exact ⟨k, fun _ => ⟨h1, h2⟩⟩
    · exact ⟨0, fun z => absurd z hc⟩
  obtain ⟨L, hL⟩ := Classical.axiomOfChoice hch
  obtain ⟨c, k, hc, hk, hk2, ek⟩ := hpos
  refine ⟨L, fun c hc => ⟨by have := (hL c hc).1; omega, by rw [e (8 + c) (by omega) (by omega)]; exact (hL c hc).2⟩, c, hc, ?_⟩
  have h1 := hL c hc
  rw [ek, nI_eq hk2 (by omega)] at h1
  omega
set_option maxRecDepth 100000 in
theorem wk_X6_delivers (B : Nat) : fw_Wk B fl_X6 (cal_X6_delivers B) [] cst_X6 none kX6_delivers 4 (ct_X6_delivers B) := by
  intro as M Q QX h
  unfold ct_X6_delivers at h
  split at h
  · obtain ⟨rfl, c, p, hc, hp, rfl, rfl, hLG, hn, hn6, ⟨k, hk, ek⟩, h⟩ := h
    have eL : ∀ x, 8 ≤ x → x < 14 → sP (dl1 (mS B M) p) p x = sP (mS B M) p x := fun x h1 h2 => by rw [dl1_P (by omega) (by omega) (by omega), if_neg (by omega)]
    have hLG2 : LG (dl1 (mS B M) p) p := by
      obtain ⟨L, h1, h2⟩ := hLG
      exact ⟨L, fun c hc => ⟨(h1 c hc).1, by rw [eL _ (by omega) (by omega)]; exact (h1 c hc).2⟩, h2⟩
    have e2 : dl1 (mS B M) p 2 = mS B M 2 := dl1_lo (by decide)
    have hn2 : dl1 (mS B M) p 2 = nI (cn (dl1 (mS B M) p)) := by rw [e2, cn_eq e2]; exact hn
    have hn62 : cn (dl1 (mS B M) p) ≤ 6 := by rw [cn_eq e2]; exact hn6
    have ek : mS B M (37 + 20 * p + 3) = nI k := ek
    refine ⟨rfl, [], ⟨200, ?_⟩, nofun⟩
    refine And.intro kd_492 (And.intro kd_493 (And.intro (vn_493 (i := 0) (by decide)) (And.intro kd_492 (And.intro rfl (And.intro (vP2 hp) ?_)))))
    refine And.intro (fun h1 => ?_) (fun h1 => ?_)
    · simp (disch := omega) only [cx0, cx1, cx2, cx3, cx4, px0, px1, px2, px3, px4, px5, px6, px7, pxL, pxS, n_cl, cl0, cl1, cl2, cl3, cl4, cl5, cl6, b493, b494, b495, b496, b497] at h1
      have hpay : mS B M (37 + 20 * p + 3) / 2 = payS (mS B M) p := (if_neg (Int32.not_le.mpr h1)).symm
      have hpk : mS B M (37 + 20 * p + 3) / 2 = nI (k / 2) := by rw [ek, n2, pk_div (by omega) (by decide) (by decide)]
      refine And.intro kd_492 (And.intro rfl (And.intro (vP3 hp) (And.intro (fw_sd_i (by decide)) ?_)))
      refine And.intro kd_492 (And.intro rfl (And.intro (vP4 hp) (And.intro kd_492 (And.intro kd_493 (And.intro (vn_493 (i := 0) (by decide)) (And.intro kd_492 (And.intro rfl (And.intro (vP6 hp) (And.intro kd_492 (And.intro rfl (And.intro (vP7 hp) ?_)))))))))))
      refine And.intro kd_492 (And.intro kd_493 (And.intro (vn_493 (i := 6) (by decide)) (And.intro kd_493 (And.intro (vn_493 (i := 6) (by decide)) ?_))))
      refine And.intro kd_492 (And.intro rfl (Exists.intro p (Exists.intro (k / 2) (And.intro hp (And.intro (by omega) (And.intro rfl (And.intro ?_ (And.intro ?_ (And.intro ?_ (And.intro ?_ ?_))))))))))
      · simp (disch := omega) only [cx0, cx1, cx2, cx3, cx4, px0, px1, px2, px3, px4, px5, px6, px7, pxL, pxS, n_cl, cl0, cl1, cl2, cl3, cl4, cl5, cl6, b493, b494, b495, b496, b497]
        exact hpk
      · simp (disch := omega) only [cx0, cx1, cx2, cx3, cx4, px0, px1, px2, px3, px4, px5, px6, px7, pxL, pxS, n_cl, cl0, cl1, cl2, cl3, cl4, cl5, cl6, b493, b494, b495, b496, b497, row_1, row_row, st_row, upd_s, upd_n, mS_K, mK_K]
        rw [hpay]
        exact hLG2
      · simp (disch := omega) only [cx0, cx1, cx2, cx3, cx4, px0, px1, px2, px3, px4, px5, px6, px7, pxL, pxS, n_cl, cl0, cl1, cl2, cl3, cl4, cl5, cl6, b493, b494, b495, b496, b497, row_1, row_row, st_row, upd_s, upd_n, mS_K, mK_K]
        rw [hpay]
        exact hn2
      · simp (disch := omega) only [cx0, cx1, cx2, cx3, cx4, px0, px1, px2, px3, px4, px5, px6, px7, pxL, pxS, n_cl, cl0, cl1, cl2, cl3, cl4, cl5, cl6, b493, b494, b495, b496, b497, row_1, row_row, st_row, upd_s, upd_n, mS_K, mK_K]
        rw [hpay]
        exact hn62
      · refine And.intro kd_492 (And.intro rfl (Exists.intro c (And.intro hc (And.intro rfl ?_))))
        conv => whnf
        simp (disch := omega) only [cx0, cx1, cx2, cx3, cx4, px0, px1, px2, px3, px4, px5, px6, px7, pxL, pxS, n_cl, cl0, cl1, cl2, cl3, cl4, cl5, cl6, b493, b494, b495, b496, b497, row_1, row_row, st_row, upd_s, upd_n, mS_K, mK_K]
        rw [hpay]
        exact h
    · simp (disch := omega) only [cx0, cx1, cx2, cx3, cx4, px0, px1, px2, px3, px4, px5, px6, px7, pxL, pxS, n_cl, cl0, cl1, cl2, cl3, cl4, cl5, cl6, b493, b494, b495, b496, b497] at h1
      have hpay : mS B M (37 + 20 * p + 3) = payS (mS B M) p := (if_pos (Int32.not_lt.mp h1)).symm
      refine And.intro kd_492 (And.intro rfl (And.intro (vP3 hp) ?_))
      refine And.intro kd_492 (And.intro rfl (And.intro (vP4 hp) (And.intro kd_492 (And.intro kd_493 (And.intro (vn_493 (i := 0) (by decide)) (And.intro kd_492 (And.intro rfl (And.intro (vP6 hp) (And.intro kd_492 (And.intro rfl (And.intro (vP7 hp) ?_)))))))))))
      refine And.intro kd_492 (And.intro kd_493 (And.intro (vn_493 (i := 6) (by decide)) (And.intro kd_493 (And.intro (vn_493 (i := 6) (by decide)) ?_))))
      refine And.intro kd_492 (And.intro rfl (Exists.intro p (Exists.intro k (And.intro hp (And.intro (by omega) (And.intro rfl (And.intro ?_ (And.intro ?_ (And.intro ?_ (And.intro ?_ ?_))))))))))
      · simp (disch := omega) only [cx0, cx1, cx2, cx3, cx4, px0, px1, px2, px3, px4, px5, px6, px7, pxL, pxS, n_cl, cl0, cl1, cl2, cl3, cl4, cl5, cl6, b493, b494, b495, b496, b497]
        exact ek
      · simp (disch := omega) only [cx0, cx1, cx2, cx3, cx4, px0, px1, px2, px3, px4, px5, px6, px7, pxL, pxS, n_cl, cl0, cl1, cl2, cl3, cl4, cl5, cl6, b493, b494, b495, b496, b497, row_1, row_row, st_row, upd_s, upd_n, mS_K, mK_K]
        rw [hpay]
        exact hLG2
      · simp (disch := omega) only [cx0, cx1, cx2, cx3, cx4, px0, px1, px2, px3, px4, px5, px6, px7, pxL, pxS, n_cl, cl0, cl1, cl2, cl3, cl4, cl5, cl6, b493, b494, b495, b496, b497, row_1, row_row, st_row, upd_s, upd_n, mS_K, mK_K]
        rw [hpay]
        exact hn2
      · simp (disch := omega) only [cx0, cx1, cx2, cx3, cx4, px0, px1, px2, px3, px4, px5, px6, px7, pxL, pxS, n_cl, cl0, cl1, cl2, cl3, cl4, cl5, cl6, b493, b494, b495, b496, b497, row_1, row_row, st_row, upd_s, upd_n, mS_K, mK_K]
        rw [hpay]
        exact hn62
      · refine And.intro kd_492 (And.intro rfl (Exists.intro c (And.intro hc (And.intro rfl ?_))))
        conv => whnf
        simp (disch := omega) only [cx0, cx1, cx2, cx3, cx4, px0, px1, px2, px3, px4, px5, px6, px7, pxL, pxS, n_cl, cl0, cl1, cl2, cl3, cl4, cl5, cl6, b493, b494, b495, b496, b497, row_1, row_row, st_row, upd_s, upd_n, mS_K, mK_K]
        rw [hpay]
        exact h
  · exact h.elim
set_option maxRecDepth 100000 in
theorem wk_X6_failsOf (B : Nat) : fw_Wk B fl_X6 (cal_X6_failsOf B) [] cst_X6 none kX6_failsOf 3 (ct_X6_failsOf B) := by
  intro as M Q QX h
  unfold ct_X6_failsOf at h
  split at h
  · obtain ⟨rfl, p, hp, rfl, hn, hn6, h⟩ := h
    unfold faiS at h
    generalize hN : cn (mS B M) = N at hn hn6 h
    have e2 : ∀ i, mS B (mK B M (frW (uP (mS B M) p 4 3) p i)) 2 = nI N := fun i => by rw [mS_K, frW_lo (by decide), uP_lo (by decide), hn]
    refine ⟨rfl, [(9, [true, true, true], fun n ls st M' => ∃ i, n = N - i ∧ i ≤ N ∧ ls = [some (.ref (B + 492)), some (.int (nI p)), some (.int (nI i))] ∧ st = [] ∧ M' = mK B M (frW (uP (mS B M) p 4 3) p i))], ⟨20, ?_⟩, ?_⟩
    · refine And.intro kd_492 (And.intro rfl (And.intro (vP4 hp) (Exists.intro N (Exists.intro 0 ⟨rfl, by omega, rfl, rfl, ?_⟩))))
      rw [px4, n_cl (by omega)]
      rfl
    · intro q hq n ls st M' hi
      cases List.mem_singleton.mp hq
      obtain ⟨i, rfl, hi, rfl, rfl, rfl⟩ := hi
      refine ⟨60, And.intro kd_492 (And.intro kd_493 (And.intro (vn_493 (i := 2) (by decide)) (And.intro (fun h1 => ?_) (fun h1 => ?_))))⟩
      · have h1 : mS B (mK B M (frW (uP (mS B M) p 4 3) p i)) 2 ≤ nI i := h1
        rw [e2, n_ge (by omega) (by omega)] at h1
        rw [show i = N by omega]
        exact h
      · have h1 : ¬ mS B (mK B M (frW (uP (mS B M) p 4 3) p i)) 2 ≤ nI i := h1
        rw [e2, n_ge (by omega) (by omega)] at h1
        refine And.intro kd_492 (And.intro rfl (And.intro (vC4 (by omega)) ?_))
        refine And.intro (fun h2 => ?_) (fun h2 => ?_)
        · simp (disch := omega) only [cx0, cx1, cx2, cx3, cx4, px0, px1, px2, px3, px4, px5, px6, px7, pxL, pxS, n_cl, cl0, cl1, cl2, cl3, cl4, cl5, cl6, b493, b494, b495, b496, b497, mS_K] at h2
          refine Exists.intro (N - (i + 1)) (And.intro (by omega) (Exists.intro (i + 1) ⟨rfl, by omega, ?_, rfl, ?_⟩))
          · show [some (Value.ref (B + 492)), some (Value.int (nI p)), some (Value.int (nI i + 1))] = _
            rw [nI_1]
          · rw [frW, if_neg (show ¬ sC (frW (uP (mS B M) p 4 3) p i) i 4 = nI p from h2)]
        · simp (disch := omega) only [cx0, cx1, cx2, cx3, cx4, px0, px1, px2, px3, px4, px5, px6, px7, pxL, pxS, n_cl, cl0, cl1, cl2, cl3, cl4, cl5, cl6, b493, b494, b495, b496, b497, mS_K] at h2
          refine And.intro kd_492 (And.intro rfl (Exists.intro i (And.intro (by omega) (And.intro rfl ?_))))
          refine Exists.intro (N - (i + 1)) (And.intro (by omega) (Exists.intro (i + 1) ⟨rfl, by omega, ?_, rfl, ?_⟩))
          · show [some (Value.ref (B + 492)), some (Value.int (nI p)), some (Value.int (nI i + 1))] = _
            rw [nI_1]
          · rw [mS_K, mK_K, frW, if_pos (show sC (frW (uP (mS B M) p 4 3) p i) i 4 = nI p from h2)]
  · exact h.elim
set_option maxRecDepth 100000 in
theorem wk_X6_carries (B : Nat) : fw_Wk B fl_X6 (cal_X6_carries B) [] cst_X6 none kX6_carries 4 (ct_X6_carries B) := by
  intro as M Q QX h
  unfold ct_X6_carries at h
  split at h
  · obtain ⟨rfl, t, c, p, ht, hW, hcn, hpn, rfl, rfl, h⟩ := h
    have hn6 := hW.2.1
    have hm24 := hW.2.2.2.1
    have hc : c < 6 := by omega
    have hp : p < 24 := by omega
    generalize hz : nxz (sC (mS B M) c 1) (sP (mS B M) p 1) = z at h
    have hz2 : nxz (mS B M (7 + 5 * c + 1)) (mS B M (37 + 20 * p + 1)) = z := hz
    unfold carS at h
    rw [hz] at h
    refine ⟨rfl, [], ⟨200, ?_⟩, nofun⟩
    refine And.intro kd_492 (And.intro rfl (And.intro (vC1 hc) (And.intro kd_492 (And.intro rfl (And.intro (vP1 hp) ?_)))))
    refine And.intro kd_492 (And.intro rfl (Exists.intro c (And.intro hc (And.intro rfl ?_))))
    refine And.intro (fun h1 => ?_) (fun h1 => ?_)
    · have h1 := bi_n0.mp h1
      simp (disch := omega) only [cx0, cx1, cx2, cx3, cx4, px0, px1, px2, px3, px4, px5, px6, px7, pxL, pxS, n_cl, cl0, cl1, cl2, cl3, cl4, cl5, cl6, b493, b494, b495, b496, b497] at h1
      rw [hz2] at h1
      rw [if_pos h1] at h
      have elp : sP (legS (mS B M) c p z) p 1 = sP (mS B M) p 1 := by rw [legS_P hc (by decide), if_neg (by omega), if_neg (by omega)]
      refine And.intro kd_492 (And.intro rfl (And.intro (vC1 hc) ?_))
      refine And.intro kd_492 (And.intro kd_493 (And.intro (vn_493 (i := 5) (by decide)) (And.intro kd_493 (And.intro (vn_493 (i := 5) (by decide)) ?_))))
      refine And.intro kd_492 (And.intro rfl (And.intro (vP5 hp) (And.intro kd_492 (And.intro rfl (And.intro (vPL hp hc) (And.intro kd_492 (And.intro rfl (And.intro (vPL hp hc) ?_))))))))
      refine And.intro kd_492 (And.intro rfl (And.intro (vP1 hp) ?_))
      have ecn : cn (legS (mS B M) c p z) = cn (mS B M) := cn_eq (legS_lo (by decide))
      refine And.intro (fun h2 => ?_) (fun h2 => ?_)
      · conv => whnf
        simp (disch := omega) only [cx0, cx1, cx2, cx3, cx4, px0, px1, px2, px3, px4, px5, px6, px7, pxL, pxS, n_cl, cl0, cl1, cl2, cl3, cl4, cl5, cl6, b493, b494, b495, b496, b497, row_1, row_row, st_row, upd_s, upd_n, mS_K, mK_K] at h2 ⊢
        rw [hz2] at h2
        rw [hz2]
        rw [if_neg (show ¬ z = sP (mS B M) p 1 from h2)] at h
        exact h
      · simp (disch := omega) only [cx0, cx1, cx2, cx3, cx4, px0, px1, px2, px3, px4, px5, px6, px7, pxL, pxS, n_cl, cl0, cl1, cl2, cl3, cl4, cl5, cl6, b493, b494, b495, b496, b497, row_1, row_row, st_row, upd_s, upd_n, mS_K, mK_K] at h2
        rw [hz2] at h2
        rw [if_pos (show z = sP (mS B M) p 1 from h2)] at h
        obtain ⟨k, hk, ek⟩ := (hW.2.2.2.2.2.2 p hpn).2.2.1
        have hWp := hW.2.2.2.2.2.2 p hpn
        obtain ⟨kc, hkc, ekc⟩ := hWp.2.2.2.2.2 c hc
        refine And.intro kd_492 (And.intro rfl (Exists.intro c (Exists.intro p (And.intro hc (And.intro hp (And.intro rfl (And.intro rfl (And.intro ?_ (And.intro ?_ (And.intro ?_ (And.intro ⟨k, hk, ?_⟩ ?_)))))))))))
        · simp (disch := omega) only [cx0, cx1, cx2, cx3, cx4, px0, px1, px2, px3, px4, px5, px6, px7, pxL, pxS, n_cl, cl0, cl1, cl2, cl3, cl4, cl5, cl6, b493, b494, b495, b496, b497, row_1, row_row, st_row, upd_s, upd_n, mS_K, mK_K]
          rw [hz2]
          show LG (legS (mS B M) c p z) p
          have hch : ∀ d, ∃ k, d < 6 → k ≤ t + 1 ∧ sP (legS (mS B M) c p z) p (8 + d) = nI k := fun d => by
            by_cases hd : d < 6
            · obtain ⟨kd, h1, h2⟩ := hWp.2.2.2.2.2 d hd
              by_cases e : d = c
              · refine ⟨kc + 1, fun _ => ⟨by omega, ?_⟩⟩
                rw [legS_P hc (by omega), if_pos ⟨rfl, by omega⟩, ekc, nI_1]
              · refine ⟨kd, fun _ => ⟨by omega, ?_⟩⟩
                rw [legS_P hc (by omega), if_neg (by omega), if_neg (by omega), h2]
            · exact ⟨0, fun z => absurd z hd⟩
          obtain ⟨L, hL⟩ := Classical.axiomOfChoice hch
          refine ⟨L, fun d hd => ⟨by have := (hL d hd).1; omega, (hL d hd).2⟩, c, hc, ?_⟩
          have h9 := hL c hc
          rw [legS_P hc (by omega), if_pos ⟨rfl, rfl⟩, ekc, nI_1, nI_eq (by omega) (by omega)] at h9
          omega
        · simp (disch := omega) only [cx0, cx1, cx2, cx3, cx4, px0, px1, px2, px3, px4, px5, px6, px7, pxL, pxS, n_cl, cl0, cl1, cl2, cl3, cl4, cl5, cl6, b493, b494, b495, b496, b497, row_1, row_row, st_row, upd_s, upd_n, mS_K, mK_K]
          rw [hz2]
          show mS B M 2 = nI (cn (legS (mS B M) c p z))
          rw [ecn]
          exact hW.1
        · simp (disch := omega) only [cx0, cx1, cx2, cx3, cx4, px0, px1, px2, px3, px4, px5, px6, px7, pxL, pxS, n_cl, cl0, cl1, cl2, cl3, cl4, cl5, cl6, b493, b494, b495, b496, b497, row_1, row_row, st_row, upd_s, upd_n, mS_K, mK_K]
          rw [hz2]
          show cn (legS (mS B M) c p z) ≤ 6
          rw [ecn]
          exact hn6
        · simp (disch := omega) only [cx0, cx1, cx2, cx3, cx4, px0, px1, px2, px3, px4, px5, px6, px7, pxL, pxS, n_cl, cl0, cl1, cl2, cl3, cl4, cl5, cl6, b493, b494, b495, b496, b497, row_1, row_row, st_row, upd_s, upd_n, mS_K, mK_K]
          rw [hz2]
          show sP (legS (mS B M) c p z) p 3 = nI k
          rw [legS_P hc (by decide), if_neg (by omega), if_neg (by omega)]
          exact ek
        · conv => whnf
          simp (disch := omega) only [cx0, cx1, cx2, cx3, cx4, px0, px1, px2, px3, px4, px5, px6, px7, pxL, pxS, n_cl, cl0, cl1, cl2, cl3, cl4, cl5, cl6, b493, b494, b495, b496, b497, row_1, row_row, st_row, upd_s, upd_n, mS_K, mK_K]
          rw [hz2]
          exact h
    · have h1 := bi_0.mp h1
      simp (disch := omega) only [cx0, cx1, cx2, cx3, cx4, px0, px1, px2, px3, px4, px5, px6, px7, pxL, pxS, n_cl, cl0, cl1, cl2, cl3, cl4, cl5, cl6, b493, b494, b495, b496, b497] at h1
      rw [hz2] at h1
      rw [if_neg (by rw [h1]; decide)] at h
      refine And.intro kd_492 (And.intro rfl (And.intro (vP4 hp) ?_))
      refine And.intro kd_492 (And.intro kd_493 (And.intro (vn_493 (i := 4) (by decide)) (And.intro kd_493 (And.intro (vn_493 (i := 4) (by decide)) ?_))))
      refine And.intro kd_492 (And.intro rfl (Exists.intro c (And.intro hc (And.intro rfl ?_))))
      conv => whnf
      simp (disch := omega) only [cx0, cx1, cx2, cx3, cx4, px0, px1, px2, px3, px4, px5, px6, px7, pxL, pxS, n_cl, cl0, cl1, cl2, cl3, cl4, cl5, cl6, b493, b494, b495, b496, b497, row_1, row_row, st_row, upd_s, upd_n, mS_K, mK_K]
      exact h
  · exact h.elim
set_option maxRecDepth 100000 in
theorem wk_X6_tick (B : Nat) : fw_Wk B fl_X6 (cal_X6_tick B) [] cst_X6 none kX6_tick 3 (ct_X6_tick B) := by
  intro as M Q QX h
  unfold ct_X6_tick at h
  split at h
  · obtain ⟨rfl, t, ht, hW, h⟩ := h
    have hn6 := hW.2.1
    have hm24 := hW.2.2.2.1
    have hn := hW.1
    have hm := hW.2.2.1
    have hA : WF (t + 6) (tkA (mS B M)) := WF_tkA hW
    have ecA : cn (tkA (mS B M)) = cn (mS B M) := cn_eq (tkA_lo (by decide) (by decide))
    have epA : pn (tkA (mS B M)) = pn (mS B M) := pn_eq (tkA_lo (by decide) (by decide))
    generalize hN : cn (mS B M) = N at hn hn6 ecA
    generalize hP : pn (mS B M) = P at hm hm24 epA
    have eT : cn (upd (mS B M) 0 (mS B M 0 + 1)) = N := by rw [cn_eq (upd_n (by decide)), hN]
    have hWi : ∀ i, i ≤ N → WF (t + i) (actW (upd (mS B M) 0 (mS B M 0 + 1)) i) := fun i hi => WF_actW (WF_time _ hW) i (by rw [eT]; exact hi)
    have eci : ∀ i, cn (actW (upd (mS B M) 0 (mS B M 0 + 1)) i) = N := fun i => by rw [cn_eq (actW_lo (by decide) i), eT]
    have e2 : ∀ i, mS B (mK B M (actW (upd (mS B M) 0 (mS B M 0 + 1)) i)) 2 = nI N := fun i => by rw [mS_K, actW_lo (by decide), upd_n (by decide), hn]
    have e3 : ∀ i, mS B (mK B M (flW (tkA (mS B M)) i)) 3 = nI P := fun i => by rw [mS_K, flW_lo (by decide), tkA_lo (by decide) (by decide), hm]
    have eA : actW (upd (mS B M) 0 (mS B M 0 + 1)) N = tkA (mS B M) := by unfold tkA; rw [hN]
    refine ⟨rfl, [
      (12, [true, true, false], fun n ls st M' => ∃ i, n = 100 + (N - i) ∧ i ≤ N ∧ ls = [some (.ref (B + 492)), some (.int (nI i)), none] ∧ st = [] ∧ M' = mK B M (actW (upd (mS B M) 0 (mS B M 0 + 1)) i)),
      (89, [true, true, false], fun n ls st M' => ∃ i, n = P - i ∧ i ≤ P ∧ ls = [some (.ref (B + 492)), some (.int (nI i)), none] ∧ st = [] ∧ M' = mK B M (flW (tkA (mS B M)) i))], ⟨20, ?_⟩, ?_⟩
    · refine And.intro kd_492 (And.intro kd_493 (And.intro (vn_493 (i := 0) (by decide)) (And.intro kd_493 (And.intro (vn_493 (i := 0) (by decide)) ?_))))
      exact Exists.intro (100 + N) (Exists.intro 0 ⟨rfl, by omega, rfl, rfl, rfl⟩)
    · intro q hq n ls st M' hi
      simp only [List.mem_cons, List.not_mem_nil, or_false] at hq
      rcases hq with rfl | rfl
      · obtain ⟨i, rfl, hi, rfl, rfl, rfl⟩ := hi
        have hWw := hWi i hi
        have hcw := eci i
        have e2i := e2 i
        generalize hS1 : actW (upd (mS B M) 0 (mS B M 0 + 1)) i = S1 at hWw hcw e2i
        refine ⟨100, And.intro kd_492 (And.intro kd_493 (And.intro (vn_493 (i := 2) (by decide)) (And.intro (fun h1 => ?_) (fun h1 => ?_))))⟩
        · have h1 : mS B (mK B M S1) 2 ≤ nI i := h1
          rw [e2i, n_ge (by omega) (by omega)] at h1
          refine Exists.intro P (And.intro (by omega) (Exists.intro 0 ⟨rfl, by omega, rfl, rfl, ?_⟩))
          rw [← hS1, show i = N by omega, eA]
          rfl
        · have h1 : ¬ mS B (mK B M S1) 2 ≤ nI i := h1
          rw [e2i, n_ge (by omega) (by omega)] at h1
          have hsucc : actW (upd (mS B M) 0 (mS B M 0 + 1)) (i + 1) = actS S1 i := by rw [actW, hS1]
          have key : ∀ S2, actS S1 i = S2 → ∃ n', n' < 100 + (N - i) ∧ ∃ j, n' = 100 + (N - j) ∧ j ≤ N ∧ [some (Value.ref (B + 492)), some (Value.int (nI i + 1)), none] = [some (.ref (B + 492)), some (.int (nI j)), none] ∧ ([] : List Value) = [] ∧ mK B M S2 = mK B M (actW (upd (mS B M) 0 (mS B M 0 + 1)) j) := by
            intro S2 h2
            exact ⟨100 + (N - (i + 1)), by omega, i + 1, rfl, by omega, by rw [nI_1], rfl, by rw [hsucc, h2]⟩
          have hic : i < cn S1 := by omega
          have hi6 : i < 6 := by omega
          have es1 : mS B (mK B M S1) = S1 := mS_K
          refine And.intro kd_492 (And.intro rfl (And.intro (vC4 hi6) (And.intro kd_492 (And.intro rfl (And.intro (vC3 hi6) ?_)))))
          refine And.intro (fun h2 => ?_) (fun h2 => ?_)
          · simp (disch := omega) only [cx0, cx1, cx2, cx3, cx4, px0, px1, px2, px3, px4, px5, px6, px7, pxL, pxS, n_cl, cl0, cl1, cl2, cl3, cl4, cl5, cl6, b493, b494, b495, b496, b497, mS_K] at h2
            refine And.intro kd_492 (And.intro rfl (And.intro (vC3 hi6) ?_))
            refine And.intro (fun h3 => ?_) (fun h3 => ?_)
            · simp (disch := omega) only [cx0, cx1, cx2, cx3, cx4, px0, px1, px2, px3, px4, px5, px6, px7, pxL, pxS, n_cl, cl0, cl1, cl2, cl3, cl4, cl5, cl6, b493, b494, b495, b496, b497, mS_K] at h3
              refine And.intro kd_492 (And.intro rfl (Exists.intro i (And.intro hi6 (And.intro rfl (And.intro ?_ (And.intro ?_ (And.intro ?_ (And.intro ?_ ?_))))))))
              · rw [mS_K]; exact hWw.1
              · rw [mS_K]; exact hWw.2.1
              · rw [mS_K]; exact hWw.2.2.1
              · rw [mS_K]; exact hWw.2.2.2.1
              · rw [mS_K, mK_K]
                refine key _ ?_
                unfold actS
                rw [if_neg (show ¬ sC S1 i 3 = 2 from h2), if_neg (show ¬ (sC S1 i 3 = 1 ∧ _) from fun z => h3 z.1)]
            · simp (disch := omega) only [cx0, cx1, cx2, cx3, cx4, px0, px1, px2, px3, px4, px5, px6, px7, pxL, pxS, n_cl, cl0, cl1, cl2, cl3, cl4, cl5, cl6, b493, b494, b495, b496, b497, mS_K] at h3
              have h3 : sC S1 i 3 = 1 := h3
              obtain ⟨p, hp, ep, ep2⟩ := WF_with hWw hic (by rw [h3]; decide)
              have hm1 := hWw.2.2.2.1
              have ep' : mS B (mK B M S1) ((7 : Int32) + 5 * nI i + 4).toNatClampNeg = nI p := by rw [cx4, n_cl (by omega), mS_K]; exact ep
              refine And.intro kd_492 (And.intro rfl (And.intro (by rw [ep']; exact vP4 (by omega)) ?_))
              refine And.intro (fun h4 => ?_) (fun h4 => ?_)
              · rw [ep'] at h4
                simp (disch := omega) only [cx0, cx1, cx2, cx3, cx4, px0, px1, px2, px3, px4, px5, px6, px7, pxL, pxS, n_cl, cl0, cl1, cl2, cl3, cl4, cl5, cl6, b493, b494, b495, b496, b497, mS_K] at h4
                refine And.intro kd_492 (And.intro rfl (Exists.intro i (And.intro hi6 (And.intro rfl (And.intro ?_ (And.intro ?_ (And.intro ?_ (And.intro ?_ ?_))))))))
                · rw [mS_K]; exact hWw.1
                · rw [mS_K]; exact hWw.2.1
                · rw [mS_K]; exact hWw.2.2.1
                · rw [mS_K]; exact hWw.2.2.2.1
                · rw [mS_K, mK_K]
                  refine key _ ?_
                  unfold actS
                  rw [if_neg (show ¬ sC S1 i 3 = 2 from h2), ep2, if_neg (show ¬ (sC S1 i 3 = 1 ∧ sP S1 p 4 = 0) from fun z => h4 z.2)]
              · rw [ep'] at h4
                simp (disch := omega) only [cx0, cx1, cx2, cx3, cx4, px0, px1, px2, px3, px4, px5, px6, px7, pxL, pxS, n_cl, cl0, cl1, cl2, cl3, cl4, cl5, cl6, b493, b494, b495, b496, b497, mS_K] at h4
                refine And.intro kd_492 (And.intro rfl (Exists.intro i (Exists.intro p (And.intro hi6 (And.intro (by omega) (And.intro rfl (And.intro ep' ?_)))))))
                rw [mS_K, mK_K]
                refine key _ ?_
                unfold actS
                rw [if_neg (show ¬ sC S1 i 3 = 2 from h2), ep2, if_pos (show (sC S1 i 3 = 1 ∧ sP S1 p 4 = 0) from ⟨h3, h4⟩)]
          · simp (disch := omega) only [cx0, cx1, cx2, cx3, cx4, px0, px1, px2, px3, px4, px5, px6, px7, pxL, pxS, n_cl, cl0, cl1, cl2, cl3, cl4, cl5, cl6, b493, b494, b495, b496, b497, mS_K] at h2
            have h2 : sC S1 i 3 = 2 := h2
            obtain ⟨p, hp, ep, ep2⟩ := WF_with hWw hic (by rw [h2]; decide)
            have ep' : mS B (mK B M S1) ((7 : Int32) + 5 * nI i + 4).toNatClampNeg = nI p := by rw [cx4, n_cl (by omega), mS_K]; exact ep
            refine And.intro kd_492 (And.intro rfl (Exists.intro (t + i) (Exists.intro i (Exists.intro p (And.intro (by omega) (And.intro (by rw [mS_K]; exact hWw) (And.intro (by rw [mS_K]; exact hic) (And.intro (by rw [mS_K]; exact hp) (And.intro rfl (And.intro ep' ?_))))))))))
            rw [mS_K, mK_K]
            refine key _ ?_
            unfold actS
            rw [if_pos h2, ep2]
      · obtain ⟨i, rfl, hi, rfl, rfl, rfl⟩ := hi
        have hWw : WF (t + 6) (flW (tkA (mS B M)) i) := WF_flW hA i (by rw [epA]; exact hi)
        have e3i := e3 i
        have hcw : cn (flW (tkA (mS B M)) i) = N := by rw [cn_eq (flW_lo (by decide) i), ecA]
        have hh : Q none (mK B M (flW (tkA (mS B M)) P)) := by unfold tickS at h; rw [hP] at h; exact h
        have hsucc : ∀ S1, flW (tkA (mS B M)) i = S1 → flW (tkA (mS B M)) (i + 1) = if sP S1 i 4 < 2 ∧ sP S1 i 2 + S1 1 < S1 0 then faiS S1 i else S1 := fun S1 z => by rw [flW, z]
        generalize hS1 : flW (tkA (mS B M)) i = S1 at hWw e3i hcw
        have hsucc := hsucc S1 hS1
        refine ⟨100, And.intro kd_492 (And.intro kd_493 (And.intro (vn_493 (i := 3) (by decide)) (And.intro (fun h1 => ?_) (fun h1 => ?_))))⟩
        · have h1 : mS B (mK B M S1) 3 ≤ nI i := h1
          rw [e3i, n_ge (by omega) (by omega)] at h1
          rw [← hS1, show i = P by omega]
          exact hh
        · have h1 : ¬ mS B (mK B M S1) 3 ≤ nI i := h1
          rw [e3i, n_ge (by omega) (by omega)] at h1
          have key : ∀ S2, flW (tkA (mS B M)) (i + 1) = S2 → ∃ n', n' < P - i ∧ ∃ j, n' = P - j ∧ j ≤ P ∧ [some (Value.ref (B + 492)), some (Value.int (nI i + 1)), none] = [some (.ref (B + 492)), some (.int (nI j)), none] ∧ ([] : List Value) = [] ∧ mK B M S2 = mK B M (flW (tkA (mS B M)) j) := by
            intro S2 h2
            exact ⟨P - (i + 1), by omega, i + 1, rfl, by omega, by rw [nI_1], rfl, by rw [h2]⟩
          have hi24 : i < 24 := by omega
          refine And.intro kd_492 (And.intro rfl (And.intro (vP4 hi24) ?_))
          refine And.intro (fun h2 => ?_) (fun h2 => ?_)
          · simp (disch := omega) only [cx0, cx1, cx2, cx3, cx4, px0, px1, px2, px3, px4, px5, px6, px7, pxL, pxS, n_cl, cl0, cl1, cl2, cl3, cl4, cl5, cl6, b493, b494, b495, b496, b497, mS_K] at h2
            refine key _ ?_
            rw [hsucc, if_neg (show ¬ (sP S1 i 4 < 2 ∧ _) from fun z => absurd z.1 (Int32.not_lt.mpr h2))]
          · simp (disch := omega) only [cx0, cx1, cx2, cx3, cx4, px0, px1, px2, px3, px4, px5, px6, px7, pxL, pxS, n_cl, cl0, cl1, cl2, cl3, cl4, cl5, cl6, b493, b494, b495, b496, b497, mS_K] at h2
            refine And.intro kd_492 (And.intro rfl (And.intro (vP2 hi24) (And.intro kd_492 (And.intro kd_493 (And.intro (vn_493 (i := 1) (by decide)) (And.intro kd_492 (And.intro kd_493 (And.intro (vn_493 (i := 0) (by decide)) ?_))))))))
            refine And.intro (fun h3 => ?_) (fun h3 => ?_)
            · simp (disch := omega) only [cx0, cx1, cx2, cx3, cx4, px0, px1, px2, px3, px4, px5, px6, px7, pxL, pxS, n_cl, cl0, cl1, cl2, cl3, cl4, cl5, cl6, b493, b494, b495, b496, b497, mS_K] at h3
              refine key _ ?_
              rw [hsucc, if_neg (show ¬ (sP S1 i 4 < 2 ∧ sP S1 i 2 + S1 1 < S1 0) from fun z => absurd z.2 (Int32.not_lt.mpr h3))]
            · simp (disch := omega) only [cx0, cx1, cx2, cx3, cx4, px0, px1, px2, px3, px4, px5, px6, px7, pxL, pxS, n_cl, cl0, cl1, cl2, cl3, cl4, cl5, cl6, b493, b494, b495, b496, b497, mS_K] at h3
              refine And.intro kd_492 (And.intro rfl (Exists.intro i (And.intro hi24 (And.intro rfl (And.intro ?_ (And.intro ?_ ?_))))))
              · rw [mS_K]; exact hWw.1
              · rw [mS_K]; exact hWw.2.1
              · rw [mS_K, mK_K]
                refine key _ ?_
                rw [hsucc, if_pos (show (sP S1 i 4 < 2 ∧ sP S1 i 2 + S1 1 < S1 0) from ⟨Int32.not_le.mp h2, Int32.not_le.mp h3⟩)]
  · exact h.elim
set_option maxRecDepth 100000 in
theorem wk_X6_ticks (B : Nat) : fw_Wk B fl_X6 (cal_X6_ticks B) [] cst_X6 none kX6_ticks 3 (ct_X6_ticks B) := by
  intro as M Q QX h
  unfold ct_X6_ticks at h
  split at h
  · obtain ⟨rfl, t, N, ht, rfl, hW, h⟩ := h
    refine ⟨rfl, [(2, [true, true, true], fun n ls st M' => ∃ i, n = N - i ∧ i ≤ N ∧ ls = [some (.ref (B + 492)), some (.int (nI N)), some (.int (nI i))] ∧ st = [] ∧ M' = mK B M (tkN (mS B M) i))], ⟨20, ?_⟩, ?_⟩
    · exact Exists.intro N (Exists.intro 0 ⟨rfl, by omega, rfl, rfl, mK_S.symm⟩)
    · intro q hq n ls st M' hi
      cases List.mem_singleton.mp hq
      obtain ⟨i, rfl, hi, rfl, rfl, rfl⟩ := hi
      refine ⟨60, And.intro (fun h1 => ?_) (fun h1 => ?_)⟩
      · have h1 : nI N ≤ nI i := h1
        rw [n_ge (by omega) (by omega)] at h1
        rw [show i = N by omega]
        exact h
      · have h1 : ¬ nI N ≤ nI i := h1
        rw [n_ge (by omega) (by omega)] at h1
        refine And.intro kd_492 (And.intro rfl (Exists.intro (t + 6 * i) (And.intro (by omega) (And.intro (by rw [mS_K]; exact WF_tkN hW i) ?_))))
        refine Exists.intro (N - (i + 1)) (And.intro (by omega) (Exists.intro (i + 1) ⟨rfl, by omega, ?_, rfl, ?_⟩))
        · show [some (Value.ref (B + 492)), some (Value.int (nI N)), some (Value.int (nI i + 1))] = _
          rw [nI_1]
        · rw [mS_K, mK_K]
          rfl
  · exact h.elim
end WT
end
section
/-! contracts out of walks (printed by program) -/
section
abbrev rm_X6_thrown : Room := { frames := 0, cells := 0, slots := 0, locals := 0 }
theorem me_X6_thrown (l : Launch) (g : fw_G) (B : Nat) : fw_Met l g B yX6_thrown cX6_thrown 1 (some .int) rm_X6_thrown 0 0 (ct_X6_thrown B) := by
  refine fw_met (own := RX6) (by decide +kernel) rfl kX6_thrown_ok kX6_thrown_cst fl_X6_ok ?_ ?_ (wk_X6_thrown B)
  · intro q hq
    simp only [cal_X6_thrown, List.mem_cons, List.not_mem_nil, or_false] at hq
  · exact fun q hq => nomatch hq
abbrev rm_X6_in : Room := { frames := 0, cells := 0, slots := 0, locals := 0 }
theorem me_X6_in (l : Launch) (g : fw_G) (B : Nat) : fw_Met l g B yX6_in cX6_in 3 (some .boolean) rm_X6_in 0 0 (ct_X6_in B) := by
  refine fw_met (own := RX6) (by decide +kernel) rfl kX6_in_ok kX6_in_cst fl_X6_ok ?_ ?_ (wk_X6_in B)
  · intro q hq
    simp only [cal_X6_in, List.mem_cons, List.not_mem_nil, or_false] at hq
  · exact fun q hq => nomatch hq
abbrev rm_X6_fails : Room := { frames := 0, cells := 0, slots := 0, locals := 0 }
theorem me_X6_fails (l : Launch) (g : fw_G) (B : Nat) : fw_Met l g B yX6_fails cX6_fails 2 (some .int) rm_X6_fails 0 0 (ct_X6_fails B) := by
  refine fw_met (own := RX6) (by decide +kernel) rfl kX6_fails_ok kX6_fails_cst fl_X6_ok ?_ ?_ (wk_X6_fails B)
  · intro q hq
    simp only [cal_X6_fails, List.mem_cons, List.not_mem_nil, or_false] at hq
  · exact fun q hq => nomatch hq
abbrev rm_X6_tells : Room := { frames := 0, cells := 0, slots := 0, locals := 0 }
theorem me_X6_tells (l : Launch) (g : fw_G) (B : Nat) : fw_Met l g B yX6_tells cX6_tells 2 (some .int) rm_X6_tells 0 0 (ct_X6_tells B) := by
  refine fw_met (own := RX6) (by decide +kernel) rfl kX6_tells_ok kX6_tells_cst fl_X6_ok ?_ ?_ (wk_X6_tells B)
  · intro q hq
    simp only [cal_X6_tells, List.mem_cons, List.not_mem_nil, or_false] at hq
  · exact fun q hq => nomatch hq
abbrev rm_X6_copies : Room := { frames := 0, cells := 0, slots := 0, locals := 0 }
theorem me_X6_copies (l : Launch) (g : fw_G) (B : Nat) : fw_Met l g B yX6_copies cX6_copies 3 (none) rm_X6_copies 0 0 (ct_X6_copies B) := by
  refine fw_met (own := RX6) (by decide +kernel) rfl kX6_copies_ok kX6_copies_cst fl_X6_ok ?_ ?_ (wk_X6_copies B)
  · intro q hq
    simp only [cal_X6_copies, List.mem_cons, List.not_mem_nil, or_false] at hq
  · exact fun q hq => nomatch hq
abbrev rm_X6_hold : Room := { frames := 1, cells := 0, slots := 0, locals := 22 }
theorem me_X6_hold (l : Launch) (g : fw_G) (B : Nat) : fw_Met l g B yX6_hold cX6_hold 1 (none) rm_X6_hold 0 0 (ct_X6_hold B) := by
  refine fw_met (own := RX6) (by decide +kernel) rfl kX6_hold_ok kX6_hold_cst fl_X6_ok ?_ ?_ (wk_X6_hold B)
  · intro q hq
    simp only [cal_X6_hold, List.mem_cons, List.not_mem_nil, or_false] at hq
    rcases hq with rfl
    · exact fw_calS (me_X6_copies l g B) wl_X6_29 ws_X6_copies wz_RX6 wc_X6_copies rfl rfl (by decide +kernel) ⟨by decide, by decide⟩
  · exact fun q hq => nomatch hq
abbrev rm_X6_isCourier : Room := { frames := 1, cells := 0, slots := 0, locals := 22 }
theorem me_X6_isCourier (l : Launch) (g : fw_G) (B : Nat) : fw_Met l g B yX6_isCourier cX6_isCourier 2 (some .boolean) rm_X6_isCourier 0 0 (ct_X6_isCourier B) := by
  refine fw_met (own := RX6) (by decide +kernel) rfl kX6_isCourier_ok kX6_isCourier_cst fl_X6_ok ?_ ?_ (wk_X6_isCourier B)
  · intro q hq
    simp only [cal_X6_isCourier, List.mem_cons, List.not_mem_nil, or_false] at hq
    rcases hq with rfl
    · exact fw_calS (me_X6_in l g B) wl_X6_40 ws_X6_in wz_RX6 wc_X6_in rfl rfl (by decide +kernel) ⟨by decide, by decide⟩
  · exact fun q hq => nomatch hq
abbrev rm_X6_isParcel : Room := { frames := 1, cells := 0, slots := 0, locals := 22 }
theorem me_X6_isParcel (l : Launch) (g : fw_G) (B : Nat) : fw_Met l g B yX6_isParcel cX6_isParcel 2 (some .boolean) rm_X6_isParcel 0 0 (ct_X6_isParcel B) := by
  refine fw_met (own := RX6) (by decide +kernel) rfl kX6_isParcel_ok kX6_isParcel_cst fl_X6_ok ?_ ?_ (wk_X6_isParcel B)
  · intro q hq
    simp only [cal_X6_isParcel, List.mem_cons, List.not_mem_nil, or_false] at hq
    rcases hq with rfl
    · exact fw_calS (me_X6_in l g B) wl_X6_40 ws_X6_in wz_RX6 wc_X6_in rfl rfl (by decide +kernel) ⟨by decide, by decide⟩
  · exact fun q hq => nomatch hq
abbrev rm_X6_isZone : Room := { frames := 1, cells := 0, slots := 0, locals := 22 }
theorem me_X6_isZone (l : Launch) (g : fw_G) (B : Nat) : fw_Met l g B yX6_isZone cX6_isZone 1 (some .boolean) rm_X6_isZone 0 0 (ct_X6_isZone B) := by
  refine fw_met (own := RX6) (by decide +kernel) rfl kX6_isZone_ok kX6_isZone_cst fl_X6_ok ?_ ?_ (wk_X6_isZone B)
  · intro q hq
    simp only [cal_X6_isZone, List.mem_cons, List.not_mem_nil, or_false] at hq
    rcases hq with rfl
    · exact fw_calS (me_X6_in l g B) wl_X6_40 ws_X6_in wz_RX6 wc_X6_in rfl rfl (by decide +kernel) ⟨by decide, by decide⟩
  · exact fun q hq => nomatch hq
abbrev rm_X6_isArea : Room := { frames := 1, cells := 0, slots := 0, locals := 22 }
theorem me_X6_isArea (l : Launch) (g : fw_G) (B : Nat) : fw_Met l g B yX6_isArea cX6_isArea 1 (some .boolean) rm_X6_isArea 0 0 (ct_X6_isArea B) := by
  refine fw_met (own := RX6) (by decide +kernel) rfl kX6_isArea_ok kX6_isArea_cst fl_X6_ok ?_ ?_ (wk_X6_isArea B)
  · intro q hq
    simp only [cal_X6_isArea, List.mem_cons, List.not_mem_nil, or_false] at hq
    rcases hq with rfl
    · exact fw_calS (me_X6_in l g B) wl_X6_40 ws_X6_in wz_RX6 wc_X6_in rfl rfl (by decide +kernel) ⟨by decide, by decide⟩
  · exact fun q hq => nomatch hq
abbrev rm_X6_isMany : Room := { frames := 1, cells := 0, slots := 0, locals := 22 }
theorem me_X6_isMany (l : Launch) (g : fw_G) (B : Nat) : fw_Met l g B yX6_isMany cX6_isMany 1 (some .boolean) rm_X6_isMany 0 0 (ct_X6_isMany B) := by
  refine fw_met (own := RX6) (by decide +kernel) rfl kX6_isMany_ok kX6_isMany_cst fl_X6_ok ?_ ?_ (wk_X6_isMany B)
  · intro q hq
    simp only [cal_X6_isMany, List.mem_cons, List.not_mem_nil, or_false] at hq
    rcases hq with rfl
    · exact fw_calS (me_X6_in l g B) wl_X6_40 ws_X6_in wz_RX6 wc_X6_in rfl rfl (by decide +kernel) ⟨by decide, by decide⟩
  · exact fun q hq => nomatch hq
abbrev rm_X6_of : Room := { frames := 0, cells := 0, slots := 0, locals := 0 }
theorem me_X6_of (l : Launch) (g : fw_G) (B : Nat) : fw_Met l g B yX6_of cX6_of 3 (some .int) rm_X6_of 0 0 (ct_X6_of B) := by
  refine fw_met (own := RX6) (by decide +kernel) rfl kX6_of_ok kX6_of_cst fl_X6_ok ?_ ?_ (wk_X6_of B)
  · intro q hq
    simp only [cal_X6_of, List.mem_cons, List.not_mem_nil, or_false] at hq
  · exact fun q hq => nomatch hq
abbrev rm_X6_sets : Room := { frames := 0, cells := 0, slots := 0, locals := 0 }
theorem me_X6_sets (l : Launch) (g : fw_G) (B : Nat) : fw_Met l g B yX6_sets cX6_sets 4 (none) rm_X6_sets 0 0 (ct_X6_sets B) := by
  refine fw_met (own := RX6) (by decide +kernel) rfl kX6_sets_ok kX6_sets_cst fl_X6_ok ?_ ?_ (wk_X6_sets B)
  · intro q hq
    simp only [cal_X6_sets, List.mem_cons, List.not_mem_nil, or_false] at hq
  · exact fun q hq => nomatch hq
abbrev rm_X6_its : Room := { frames := 0, cells := 0, slots := 0, locals := 0 }
theorem me_X6_its (l : Launch) (g : fw_G) (B : Nat) : fw_Met l g B yX6_its cX6_its 3 (some .int) rm_X6_its 0 0 (ct_X6_its B) := by
  refine fw_met (own := RX6) (by decide +kernel) rfl kX6_its_ok kX6_its_cst fl_X6_ok ?_ ?_ (wk_X6_its B)
  · intro q hq
    simp only [cal_X6_its, List.mem_cons, List.not_mem_nil, or_false] at hq
  · exact fun q hq => nomatch hq
abbrev rm_X6_puts : Room := { frames := 0, cells := 0, slots := 0, locals := 0 }
theorem me_X6_puts (l : Launch) (g : fw_G) (B : Nat) : fw_Met l g B yX6_puts cX6_puts 4 (none) rm_X6_puts 0 0 (ct_X6_puts B) := by
  refine fw_met (own := RX6) (by decide +kernel) rfl kX6_puts_ok kX6_puts_cst fl_X6_ok ?_ ?_ (wk_X6_puts B)
  · intro q hq
    simp only [cal_X6_puts, List.mem_cons, List.not_mem_nil, or_false] at hq
  · exact fun q hq => nomatch hq
abbrev rm_X6_isIn : Room := { frames := 1, cells := 0, slots := 0, locals := 22 }
theorem me_X6_isIn (l : Launch) (g : fw_G) (B : Nat) : fw_Met l g B yX6_isIn cX6_isIn 3 (some .boolean) rm_X6_isIn 0 0 (ct_X6_isIn B) := by
  refine fw_met (own := RX6) (by decide +kernel) rfl kX6_isIn_ok kX6_isIn_cst fl_X6_ok ?_ ?_ (wk_X6_isIn B)
  · intro q hq
    simp only [cal_X6_isIn, List.mem_cons, List.not_mem_nil, or_false] at hq
    rcases hq with rfl
    · exact fw_calV (ci := 6) (me_X6_of l g B) (by decide) wl_X6_44 wi_X6_of wv_X6_of wz_RX6 wc_X6_of rfl rfl (by decide +kernel) ⟨by decide, by decide⟩
  · exact fun q hq => nomatch hq
abbrev rm_X6_next : Room := { frames := 0, cells := 0, slots := 0, locals := 0 }
theorem me_X6_next (l : Launch) (g : fw_G) (B : Nat) : fw_Met l g B yX6_next cX6_next 2 (some .int) rm_X6_next 0 0 (ct_X6_next B) := by
  refine fw_met (own := RX6) (by decide +kernel) rfl kX6_next_ok kX6_next_cst fl_X6_ok ?_ ?_ (wk_X6_next B)
  · intro q hq
    simp only [cal_X6_next, List.mem_cons, List.not_mem_nil, or_false] at hq
  · exact fun q hq => nomatch hq
abbrev rm_X6_frees : Room := { frames := 1, cells := 0, slots := 0, locals := 23 }
theorem me_X6_frees (l : Launch) (g : fw_G) (B : Nat) : fw_Met l g B yX6_frees cX6_frees 2 (none) rm_X6_frees 0 0 (ct_X6_frees B) := by
  refine fw_met (own := RX6) (by decide +kernel) rfl kX6_frees_ok kX6_frees_cst fl_X6_ok ?_ ?_ (wk_X6_frees B)
  · intro q hq
    simp only [cal_X6_frees, List.mem_cons, List.not_mem_nil, or_false] at hq
    rcases hq with rfl
    · exact fw_calV (ci := 6) (me_X6_sets l g B) (by decide) wl_X6_48 wi_X6_sets wv_X6_sets wz_RX6 wc_X6_sets rfl rfl (by decide +kernel) ⟨by decide, by decide⟩
  · exact fun q hq => nomatch hq
abbrev rm_X6_suits : Room := { frames := 2, cells := 0, slots := 0, locals := 44 }
theorem me_X6_suits (l : Launch) (g : fw_G) (B : Nat) : fw_Met l g B yX6_suits cX6_suits 3 (some .boolean) rm_X6_suits 0 0 (ct_X6_suits B) := by
  refine fw_met (own := RX6) (by decide +kernel) rfl kX6_suits_ok kX6_suits_cst fl_X6_ok ?_ ?_ (wk_X6_suits B)
  · intro q hq
    simp only [cal_X6_suits, List.mem_cons, List.not_mem_nil, or_false] at hq
    rcases hq with rfl | rfl | rfl
    · exact fw_calV (ci := 6) (me_X6_its l g B) (by decide) wl_X6_52 wi_X6_its wv_X6_its wz_RX6 wc_X6_its rfl rfl (by decide +kernel) ⟨by decide, by decide⟩
    · exact fw_calV (ci := 6) (me_X6_isIn l g B) (by decide) wl_X6_55 wi_X6_isIn wv_X6_isIn wz_RX6 wc_X6_isIn rfl rfl (by decide +kernel) ⟨by decide, by decide⟩
    · exact fw_calS (me_X6_next l g B) wl_X6_59 ws_X6_next wz_RX6 wc_X6_next rfl rfl (by decide +kernel) ⟨by decide, by decide⟩
  · exact fun q hq => nomatch hq
abbrev rm_X6_legsOf : Room := { frames := 1, cells := 0, slots := 0, locals := 22 }
theorem me_X6_legsOf (l : Launch) (g : fw_G) (B : Nat) : fw_Met l g B yX6_legsOf cX6_legsOf 4 (some .int) rm_X6_legsOf 0 0 (ct_X6_legsOf B) := by
  refine fw_met (own := RX6) (by decide +kernel) rfl kX6_legsOf_ok kX6_legsOf_cst fl_X6_ok ?_ ?_ (wk_X6_legsOf B)
  · intro q hq
    simp only [cal_X6_legsOf, List.mem_cons, List.not_mem_nil, or_false] at hq
    rcases hq with rfl
    · exact fw_calV (ci := 6) (me_X6_its l g B) (by decide) wl_X6_52 wi_X6_its wv_X6_its wz_RX6 wc_X6_its rfl rfl (by decide +kernel) ⟨by decide, by decide⟩
  · exact fun q hq => nomatch hq
abbrev rm_X6_shares : Room := { frames := 2, cells := 0, slots := 0, locals := 45 }
theorem me_X6_shares (l : Launch) (g : fw_G) (B : Nat) : fw_Met l g B yX6_shares cX6_shares 10 (none) rm_X6_shares 0 0 (ct_X6_shares B) := by
  refine fw_met (own := RX6) (by decide +kernel) rfl kX6_shares_ok kX6_shares_cst fl_X6_ok ?_ ?_ (wk_X6_shares B)
  · intro q hq
    simp only [cal_X6_shares, List.mem_cons, List.not_mem_nil, or_false] at hq
    rcases hq with rfl | rfl | rfl | rfl | rfl
    · exact fw_calV (ci := 6) (me_X6_legsOf l g B) (by decide) wl_X6_62 wi_X6_legsOf wv_X6_legsOf wz_RX6 wc_X6_legsOf rfl rfl (by decide +kernel) ⟨by decide, by decide⟩
    · exact fw_calV (ci := 6) (me_X6_its l g B) (by decide) wl_X6_52 wi_X6_its wv_X6_its wz_RX6 wc_X6_its rfl rfl (by decide +kernel) ⟨by decide, by decide⟩
    · exact fw_calV (ci := 6) (me_X6_puts l g B) (by decide) wl_X6_65 wi_X6_puts wv_X6_puts wz_RX6 wc_X6_puts rfl rfl (by decide +kernel) ⟨by decide, by decide⟩
    · exact fw_calV (ci := 6) (me_X6_of l g B) (by decide) wl_X6_44 wi_X6_of wv_X6_of wz_RX6 wc_X6_of rfl rfl (by decide +kernel) ⟨by decide, by decide⟩
    · exact fw_calV (ci := 6) (me_X6_sets l g B) (by decide) wl_X6_48 wi_X6_sets wv_X6_sets wz_RX6 wc_X6_sets rfl rfl (by decide +kernel) ⟨by decide, by decide⟩
  · exact fun q hq => nomatch hq
abbrev rm_X6_delivers : Room := { frames := 3, cells := 0, slots := 0, locals := 74 }
theorem me_X6_delivers (l : Launch) (g : fw_G) (B : Nat) : fw_Met l g B yX6_delivers cX6_delivers 4 (none) rm_X6_delivers 0 0 (ct_X6_delivers B) := by
  refine fw_met (own := RX6) (by decide +kernel) rfl kX6_delivers_ok kX6_delivers_cst fl_X6_ok ?_ ?_ (wk_X6_delivers B)
  · intro q hq
    simp only [cal_X6_delivers, List.mem_cons, List.not_mem_nil, or_false] at hq
    rcases hq with rfl | rfl | rfl | rfl
    · exact fw_calV (ci := 6) (me_X6_its l g B) (by decide) wl_X6_52 wi_X6_its wv_X6_its wz_RX6 wc_X6_its rfl rfl (by decide +kernel) ⟨by decide, by decide⟩
    · exact fw_calV (ci := 6) (me_X6_puts l g B) (by decide) wl_X6_65 wi_X6_puts wv_X6_puts wz_RX6 wc_X6_puts rfl rfl (by decide +kernel) ⟨by decide, by decide⟩
    · exact fw_calV (ci := 6) (me_X6_shares l g B) (by decide) wl_X6_68 wi_X6_shares wv_X6_shares wz_RX6 wc_X6_shares rfl rfl (by decide +kernel) ⟨by decide, by decide⟩
    · exact fw_calV (ci := 6) (me_X6_frees l g B) (by decide) wl_X6_72 wi_X6_frees wv_X6_frees wz_RX6 wc_X6_frees rfl rfl (by decide +kernel) ⟨by decide, by decide⟩
  · exact fun q hq => nomatch hq
abbrev rm_X6_carries : Room := { frames := 4, cells := 0, slots := 0, locals := 97 }
theorem me_X6_carries (l : Launch) (g : fw_G) (B : Nat) : fw_Met l g B yX6_carries cX6_carries 4 (none) rm_X6_carries 0 0 (ct_X6_carries B) := by
  refine fw_met (own := RX6) (by decide +kernel) rfl kX6_carries_ok kX6_carries_cst fl_X6_ok ?_ ?_ (wk_X6_carries B)
  · intro q hq
    simp only [cal_X6_carries, List.mem_cons, List.not_mem_nil, or_false] at hq
    rcases hq with rfl | rfl | rfl | rfl | rfl | rfl | rfl | rfl
    · exact fw_calV (ci := 6) (me_X6_of l g B) (by decide) wl_X6_44 wi_X6_of wv_X6_of wz_RX6 wc_X6_of rfl rfl (by decide +kernel) ⟨by decide, by decide⟩
    · exact fw_calV (ci := 6) (me_X6_its l g B) (by decide) wl_X6_52 wi_X6_its wv_X6_its wz_RX6 wc_X6_its rfl rfl (by decide +kernel) ⟨by decide, by decide⟩
    · exact fw_calS (me_X6_next l g B) wl_X6_59 ws_X6_next wz_RX6 wc_X6_next rfl rfl (by decide +kernel) ⟨by decide, by decide⟩
    · exact fw_calV (ci := 6) (me_X6_isIn l g B) (by decide) wl_X6_55 wi_X6_isIn wv_X6_isIn wz_RX6 wc_X6_isIn rfl rfl (by decide +kernel) ⟨by decide, by decide⟩
    · exact fw_calV (ci := 6) (me_X6_puts l g B) (by decide) wl_X6_65 wi_X6_puts wv_X6_puts wz_RX6 wc_X6_puts rfl rfl (by decide +kernel) ⟨by decide, by decide⟩
    · exact fw_calV (ci := 6) (me_X6_frees l g B) (by decide) wl_X6_72 wi_X6_frees wv_X6_frees wz_RX6 wc_X6_frees rfl rfl (by decide +kernel) ⟨by decide, by decide⟩
    · exact fw_calV (ci := 6) (me_X6_sets l g B) (by decide) wl_X6_48 wi_X6_sets wv_X6_sets wz_RX6 wc_X6_sets rfl rfl (by decide +kernel) ⟨by decide, by decide⟩
    · exact fw_calV (ci := 6) (me_X6_delivers l g B) (by decide) wl_X6_76 wi_X6_delivers wv_X6_delivers wz_RX6 wc_X6_delivers rfl rfl (by decide +kernel) ⟨by decide, by decide⟩
  · exact fun q hq => nomatch hq
abbrev rm_X6_goes : Room := { frames := 1, cells := 0, slots := 0, locals := 23 }
theorem me_X6_goes (l : Launch) (g : fw_G) (B : Nat) : fw_Met l g B yX6_goes cX6_goes 3 (none) rm_X6_goes 0 0 (ct_X6_goes B) := by
  refine fw_met (own := RX6) (by decide +kernel) rfl kX6_goes_ok kX6_goes_cst fl_X6_ok ?_ ?_ (wk_X6_goes B)
  · intro q hq
    simp only [cal_X6_goes, List.mem_cons, List.not_mem_nil, or_false] at hq
    rcases hq with rfl | rfl | rfl | rfl | rfl
    · exact fw_calV (ci := 6) (me_X6_of l g B) (by decide) wl_X6_44 wi_X6_of wv_X6_of wz_RX6 wc_X6_of rfl rfl (by decide +kernel) ⟨by decide, by decide⟩
    · exact fw_calV (ci := 6) (me_X6_its l g B) (by decide) wl_X6_52 wi_X6_its wv_X6_its wz_RX6 wc_X6_its rfl rfl (by decide +kernel) ⟨by decide, by decide⟩
    · exact fw_calV (ci := 6) (me_X6_sets l g B) (by decide) wl_X6_48 wi_X6_sets wv_X6_sets wz_RX6 wc_X6_sets rfl rfl (by decide +kernel) ⟨by decide, by decide⟩
    · exact fw_calV (ci := 6) (me_X6_puts l g B) (by decide) wl_X6_65 wi_X6_puts wv_X6_puts wz_RX6 wc_X6_puts rfl rfl (by decide +kernel) ⟨by decide, by decide⟩
    · exact fw_calS (me_X6_next l g B) wl_X6_59 ws_X6_next wz_RX6 wc_X6_next rfl rfl (by decide +kernel) ⟨by decide, by decide⟩
  · exact fun q hq => nomatch hq
abbrev rm_X6_isAsked : Room := { frames := 1, cells := 0, slots := 0, locals := 22 }
theorem me_X6_isAsked (l : Launch) (g : fw_G) (B : Nat) : fw_Met l g B yX6_isAsked cX6_isAsked 5 (some .boolean) rm_X6_isAsked 0 0 (ct_X6_isAsked B) := by
  refine fw_met (own := RX6) (by decide +kernel) rfl kX6_isAsked_ok kX6_isAsked_cst fl_X6_ok ?_ ?_ (wk_X6_isAsked B)
  · intro q hq
    simp only [cal_X6_isAsked, List.mem_cons, List.not_mem_nil, or_false] at hq
    rcases hq with rfl
    · exact fw_calV (ci := 6) (me_X6_of l g B) (by decide) wl_X6_44 wi_X6_of wv_X6_of wz_RX6 wc_X6_of rfl rfl (by decide +kernel) ⟨by decide, by decide⟩
  · exact fun q hq => nomatch hq
abbrev rm_X6_chooses : Room := { frames := 3, cells := 0, slots := 0, locals := 66 }
theorem me_X6_chooses (l : Launch) (g : fw_G) (B : Nat) : fw_Met l g B yX6_chooses cX6_chooses 5 (none) rm_X6_chooses 0 0 (ct_X6_chooses B) := by
  refine fw_met (own := RX6) (by decide +kernel) rfl kX6_chooses_ok kX6_chooses_cst fl_X6_ok ?_ ?_ (wk_X6_chooses B)
  · intro q hq
    simp only [cal_X6_chooses, List.mem_cons, List.not_mem_nil, or_false] at hq
    rcases hq with rfl | rfl | rfl | rfl
    · exact fw_calV (ci := 6) (me_X6_its l g B) (by decide) wl_X6_52 wi_X6_its wv_X6_its wz_RX6 wc_X6_its rfl rfl (by decide +kernel) ⟨by decide, by decide⟩
    · exact fw_calV (ci := 6) (me_X6_suits l g B) (by decide) wl_X6_79 wi_X6_suits wv_X6_suits wz_RX6 wc_X6_suits rfl rfl (by decide +kernel) ⟨by decide, by decide⟩
    · exact fw_calV (ci := 6) (me_X6_isAsked l g B) (by decide) wl_X6_82 wi_X6_isAsked wv_X6_isAsked wz_RX6 wc_X6_isAsked rfl rfl (by decide +kernel) ⟨by decide, by decide⟩
    · exact fw_calV (ci := 6) (me_X6_sets l g B) (by decide) wl_X6_48 wi_X6_sets wv_X6_sets wz_RX6 wc_X6_sets rfl rfl (by decide +kernel) ⟨by decide, by decide⟩
  · exact fun q hq => nomatch hq
abbrev rm_X6_failsOf : Room := { frames := 2, cells := 0, slots := 0, locals := 44 }
theorem me_X6_failsOf (l : Launch) (g : fw_G) (B : Nat) : fw_Met l g B yX6_failsOf cX6_failsOf 3 (none) rm_X6_failsOf 0 0 (ct_X6_failsOf B) := by
  refine fw_met (own := RX6) (by decide +kernel) rfl kX6_failsOf_ok kX6_failsOf_cst fl_X6_ok ?_ ?_ (wk_X6_failsOf B)
  · intro q hq
    simp only [cal_X6_failsOf, List.mem_cons, List.not_mem_nil, or_false] at hq
    rcases hq with rfl | rfl | rfl
    · exact fw_calV (ci := 6) (me_X6_puts l g B) (by decide) wl_X6_65 wi_X6_puts wv_X6_puts wz_RX6 wc_X6_puts rfl rfl (by decide +kernel) ⟨by decide, by decide⟩
    · exact fw_calV (ci := 6) (me_X6_of l g B) (by decide) wl_X6_44 wi_X6_of wv_X6_of wz_RX6 wc_X6_of rfl rfl (by decide +kernel) ⟨by decide, by decide⟩
    · exact fw_calV (ci := 6) (me_X6_frees l g B) (by decide) wl_X6_72 wi_X6_frees wv_X6_frees wz_RX6 wc_X6_frees rfl rfl (by decide +kernel) ⟨by decide, by decide⟩
  · exact fun q hq => nomatch hq
abbrev rm_X6_tick : Room := { frames := 5, cells := 0, slots := 0, locals := 120 }
theorem me_X6_tick (l : Launch) (g : fw_G) (B : Nat) : fw_Met l g B yX6_tick cX6_tick 3 (none) rm_X6_tick 0 0 (ct_X6_tick B) := by
  refine fw_met (own := RX6) (by decide +kernel) rfl kX6_tick_ok kX6_tick_cst fl_X6_ok ?_ ?_ (wk_X6_tick B)
  · intro q hq
    simp only [cal_X6_tick, List.mem_cons, List.not_mem_nil, or_false] at hq
    rcases hq with rfl | rfl | rfl | rfl | rfl | rfl
    · exact fw_calV (ci := 6) (me_X6_of l g B) (by decide) wl_X6_44 wi_X6_of wv_X6_of wz_RX6 wc_X6_of rfl rfl (by decide +kernel) ⟨by decide, by decide⟩
    · exact fw_calV (ci := 6) (me_X6_carries l g B) (by decide) wl_X6_85 wi_X6_carries wv_X6_carries wz_RX6 wc_X6_carries rfl rfl (by decide +kernel) ⟨by decide, by decide⟩
    · exact fw_calV (ci := 6) (me_X6_its l g B) (by decide) wl_X6_52 wi_X6_its wv_X6_its wz_RX6 wc_X6_its rfl rfl (by decide +kernel) ⟨by decide, by decide⟩
    · exact fw_calV (ci := 6) (me_X6_goes l g B) (by decide) wl_X6_88 wi_X6_goes wv_X6_goes wz_RX6 wc_X6_goes rfl rfl (by decide +kernel) ⟨by decide, by decide⟩
    · exact fw_calV (ci := 6) (me_X6_chooses l g B) (by decide) wl_X6_91 wi_X6_chooses wv_X6_chooses wz_RX6 wc_X6_chooses rfl rfl (by decide +kernel) ⟨by decide, by decide⟩
    · exact fw_calV (ci := 6) (me_X6_failsOf l g B) (by decide) wl_X6_94 wi_X6_failsOf wv_X6_failsOf wz_RX6 wc_X6_failsOf rfl rfl (by decide +kernel) ⟨by decide, by decide⟩
  · exact fun q hq => nomatch hq
abbrev rm_X6_ticks : Room := { frames := 6, cells := 0, slots := 0, locals := 142 }
theorem me_X6_ticks (l : Launch) (g : fw_G) (B : Nat) : fw_Met l g B yX6_ticks cX6_ticks 3 (none) rm_X6_ticks 0 0 (ct_X6_ticks B) := by
  refine fw_met (own := RX6) (by decide +kernel) rfl kX6_ticks_ok kX6_ticks_cst fl_X6_ok ?_ ?_ (wk_X6_ticks B)
  · intro q hq
    simp only [cal_X6_ticks, List.mem_cons, List.not_mem_nil, or_false] at hq
    rcases hq with rfl
    · exact fw_calV (ci := 6) (me_X6_tick l g B) (by decide) wl_X6_97 wi_X6_tick wv_X6_tick wz_RX6 wc_X6_tick rfl rfl (by decide +kernel) ⟨by decide, by decide⟩
  · exact fun q hq => nomatch hq
end
end
section
/-! THE FACE: what each call answers and does, on the state (row, saved rows, text) -/
section FA
abbrev Zs : Type := Sx × Nat × (Nat → Sx) × Nat × (Nat → Int32)
def phN (n : Nat) : Nat := if n = 4 then 4 else n + 1
def phH (n : Nat) (H : Nat → Sx) (S0 : Sx) : Nat → Sx := fun i => if n = 4 then (if i = 3 then S0 else H (i + 1)) else if i = n then S0 else H i
/-- saved, and then S' -/
def phZ (Z : Zs) (S' : Sx) : Zs := (S', phN Z.2.1, phH Z.2.1 Z.2.2.1 Z.1, Z.2.2.2.1, Z.2.2.2.2)
def okN (x a b : Int32) : Bool := decide (a ≤ x) && decide (x ≤ b)
def isCr (S : Sx) (c : Int32) : Bool := okN c 0 (S 2 - 1)
def isPc (S : Sx) (p : Int32) : Bool := okN p 0 (S 3 - 1)
def inSt (S : Sx) (q : Int32) : Nat → Int32
  | 0 => 0
  | p + 1 => inSt S q p + (if sP S p 4 = q then 1 else 0)
def zrP (S : Sx) (p : Nat) : Nat → Sx
  | 0 => S
  | w + 1 => uP (zrP S p w) p w 0
def comS (S : Sx) (o g k t : Int32) : Sx := upd (uP (uP (uP (uP (uP (uP (zrP S (pn S) 20) (pn S) 0 o) (pn S) 1 g) (pn S) 2 k) (pn S) 3 t) (pn S) 5 o) (pn S) 6 (-1)) 3 (S 3 + 1)
def addS (S : Sx) (ar z : Int32) : Sx := upd (frS (uC (uC (uC S (cn S) 0 ar) (cn S) 1 z) (cn S) 2 0) (cn S)) 2 (S 2 + 1)
def drS (S : Sx) (c : Nat) : Sx := frS (if sC S c 3 = 2 then uP S (sC S c 4).toNatClampNeg 4 0 else S) c
def lgC (S : Sx) (c : Nat) : Nat → Int32
  | 0 => 0
  | p + 1 => lgC S c p + sP S p (8 + c)
def valS (S : Sx) (w : Nat) : Int32 := if w = 0 then S 0 else if w = 1 then S 2 else if w = 2 then S 3 else if w = 3 then S 1 else if w = 8 then S 6 else if w = 9 then S 4 else if w = 10 then S 5 else inSt S (nI (w - 4)) (pn S)
def crS (S : Sx) (c w : Nat) : Int32 := if w < 5 then sC S c w else lgC S c (pn S)
def paS (S : Sx) (p w : Nat) : Int32 := if w < 8 then sP S p w else lsum S p 6
def aprt (a b : Int32) : Int32 := if a < b then b - a else a - b
def div4 (x : Int32) : Int32 := x / 4
def dist (f t : Int32) : Int32 := aprt (rem4 f) (rem4 t) + aprt (div4 f) (div4 t)
def suS (S : Sx) (p : Nat) : Nat → Int32
  | 0 => 0
  | c + 1 => suS S p c ||| (if suit S p c = true then (1 : Int32) <<< (nI c &&& 31) else 0)
def sus (S : Sx) (p : Nat) : Int32 := if sP S p 4 < 2 then suS S p (cn S) else 0
/-- as far as a courier carries: n steps at most -/
def rchN (S : Sx) (c : Nat) (t : Int32) : Nat → Int32 → Int32
  | 0, z => z
  | n + 1, z => if z ≠ t ∧ hs (sC S c 0) z = true ∧ hs (sC S c 0) (nxz z t) = true then rchN S c t n (nxz z t) else z
def rch (S : Sx) (c : Nat) (f t : Int32) : Int32 := rchN S c t 16 f
def rlB (S : Sx) (z t : Int32) : Nat → Int32
  | 0 => z
  | c + 1 => if dist (rch S c z t) t < dist (rlB S z t c) t then rch S c z t else rlB S z t c
def rlN (S : Sx) (t : Int32) : Nat → Int32 → Int32 → Int32
  | 0, _, _ => -1
  | n + 1, z, k => if z = t then k else if rlB S z t (cn S) = z then -1 else rlN S t n (rlB S z t (cn S)) (k + 1)
def rel (S : Sx) (p : Nat) : Int32 := rlN S (sP S p 1) 16 (sP S p 0) 0
def endN (S : Sx) : Nat → Int32
  | 0 => 0
  | p + 1 => endN S p + (if sP S p 4 < 2 then 0 else 1)
def gdN (S : Sx) : Nat → Int32
  | 0 => 0
  | p + 1 => gdN S p + (if sP S p 4 = 2 ∧ sP S p 6 ≤ sP S p 2 then 1 else 0)
def punS (S : Sx) : UInt64 := if endN S (pn S) = 0 then FP.dconst1 else FP.ddiv (FP.i2d (gdN S (pn S))) (FP.i2d (endN S (pn S)))
def payN (S : Sx) (n : Nat) : Int32 := tkN S n 6 - S 6
def wdS (S : Sx) (c z : Nat) : Sx := uC S c 0 (sC S c 0 ||| (1 : Int32) <<< (nI z &&& 31))
def bzL (S : Sx) (c n : Nat) : Nat → Int32 × Int32
  | 0 => (-1, payN S n)
  | z + 1 => if hs (sC S c 0) (nI z) = true then bzL S c n z else if (bzL S c n z).2 < payN (wdS S c z) n then (nI z, payN (wdS S c z) n) else bzL S c n z
def rtS (S : Sx) (c : Nat) : Sx := uC (drS S c) c 0 0
def dnB (S : Sx) : Bool := decide (inSt S 0 (pn S) + inSt S 1 (pn S) = 0)
def dnF (S : Sx) : Nat → Nat → Int32
  | 0, i => if dnB (tkN S i) = true then nI i else -1
  | r + 1, i => if dnB (tkN S i) = true then nI i else dnF S r (i + 1)
abbrev Op : Type := Zs → Nat × Int32 × Zs
def opAdd (ar z : Int32) : Op := fun Z => if (okN ar 0 65535 && okN z 0 15) = true then (if Z.1 2 = 6 then (2, 0, Z) else (0, Z.1 2, phZ Z (addS Z.1 ar z))) else (1, 0, Z)
def opArea (c ar : Int32) : Op := fun Z => if isCr Z.1 c = true then (if okN ar 0 65535 = true then (0, sC Z.1 c.toNatClampNeg 0, phZ Z (uC Z.1 c.toNatClampNeg 0 ar)) else (2, 0, Z)) else (1, 0, Z)
def opGive (o g k t : Int32) : Op := fun Z => if (okN o 0 15 && okN g 0 15 && okN k 1 999 && okN t 0 1000 && decide (o ≠ g)) = true then (if Z.1 3 = 24 then (2, 0, Z) else (0, Z.1 3, phZ Z (comS Z.1 o g k t))) else (1, 0, Z)
def opGrace (g : Int32) : Op := fun Z => if okN g 0 100 = true then (0, Z.1 1, phZ Z (upd Z.1 1 g)) else (1, 0, Z)
def opDrop (c : Int32) : Op := fun Z => if isCr Z.1 c = true then (0, sC Z.1 c.toNatClampNeg 4, phZ Z (drS Z.1 c.toNatClampNeg)) else (1, 0, Z)
def opRun (n : Int32) : Op := fun Z => if okN n 0 200 = true then (if 2000 < Z.1 0 + n then (2, 0, Z) else (0, inSt (tkN Z.1 n.toNatClampNeg) 2 (pn Z.1) - inSt Z.1 2 (pn Z.1), phZ Z (tkN Z.1 n.toNatClampNeg))) else (1, 0, Z)
def opValue (w : Int32) : Op := fun Z => if okN w 0 10 = true then (0, valS Z.1 w.toNatClampNeg, Z) else (1, 0, Z)
def opCourier (c w : Int32) : Op := fun Z => if isCr Z.1 c = true then (if okN w 0 5 = true then (0, crS Z.1 c.toNatClampNeg w.toNatClampNeg, Z) else (2, 0, Z)) else (1, 0, Z)
def opParcel (p w : Int32) : Op := fun Z => if isPc Z.1 p = true then (if okN w 0 8 = true then (0, paS Z.1 p.toNatClampNeg w.toNatClampNeg, Z) else (2, 0, Z)) else (1, 0, Z)
def opLegs (p c s : Int32) : Op := fun Z => if (isPc Z.1 p && isCr Z.1 c) = true then (0, sP Z.1 p.toNatClampNeg ((if s = 0 then 8 else 14) + c.toNatClampNeg), Z) else (1, 0, Z)
def opDist (f t : Int32) : Op := fun Z => if (okN f 0 15 && okN t 0 15) = true then (0, dist f t, Z) else (1, 0, Z)
def opSuited (p : Int32) : Op := fun Z => if isPc Z.1 p = true then (0, sus Z.1 p.toNatClampNeg, Z) else (1, 0, Z)
def opRelay (p : Int32) : Op := fun Z => if isPc Z.1 p = true then (0, rel Z.1 p.toNatClampNeg, Z) else (1, 0, Z)
def opPaid (n : Int32) : Op := fun Z => if okN n 0 200 = true then (0, payN Z.1 n.toNatClampNeg, Z) else (1, 0, Z)
def opBest (c n : Int32) : Op := fun Z => if isCr Z.1 c = true then (if okN n 0 200 = true then (0, (bzL Z.1 c.toNatClampNeg n.toNatClampNeg 16).1, Z) else (2, 0, Z)) else (1, 0, Z)
def opWorth (c n : Int32) : Op := fun Z => if isCr Z.1 c = true then (if okN n 0 200 = true then (0, payN Z.1 n.toNatClampNeg - payN (rtS Z.1 c.toNatClampNeg) n.toNatClampNeg, Z) else (2, 0, Z)) else (1, 0, Z)
def opDone : Op := fun Z => (0, dnF Z.1 1200 0, Z)
def opAppend (v : Int32) : Op := fun Z => if okN v 0 127 = true then (if Z.2.2.2.1 = 150 then (2, 0, Z) else (0, nI (Z.2.2.2.1 + 1), (Z.1, Z.2.1, Z.2.2.1, Z.2.2.2.1 + 1, upd Z.2.2.2.2 Z.2.2.2.1 v))) else (1, 0, Z)
def opClear : Op := fun Z => (0, nI Z.2.2.2.1, (Z.1, Z.2.1, Z.2.2.1, 0, Z.2.2.2.2))
def opUndo : Op := fun Z => if Z.2.1 = 0 then (1, 0, Z) else (0, nI (Z.2.1 - 1), (Z.2.2.1 (Z.2.1 - 1), Z.2.1 - 1, Z.2.2.1, Z.2.2.2.1, Z.2.2.2.2))
/-! the text -/
/-- how many digits stand from a on, d at most -/
def dgN (tl : Nat) (tx : Nat → Int32) (a : Nat) : Nat → Nat
  | 0 => 0
  | d + 1 => if a < tl ∧ okN (tx a) 48 57 = true then dgN tl tx (a + 1) d + 1 else 0
/-- the number of n digits from a on -/
def nbN (tx : Nat → Int32) (a : Nat) : Nat → Int32
  | 0 => 0
  | n + 1 => 10 * nbN tx a n + tx (a + n) - 48
/-- a number in its range and a sign behind it: whether, and where it goes on or is wrong -/
def numb (tl : Nat) (tx : Nat → Int32) (a d : Nat) (lo hi no sg : Int32) : Bool × Nat :=
  if dgN tl tx a d = 0 then (false, a)
  else if a + dgN tl tx a d < tl ∧ okN (tx (a + dgN tl tx a d)) 48 57 = true then (false, a + dgN tl tx a d)
  else if (okN (nbN tx a (dgN tl tx a d)) lo hi) = false ∨ nbN tx a (dgN tl tx a d) = no then (false, a)
  else if a + dgN tl tx a d < tl ∧ tx (a + dgN tl tx a d) = sg then (true, a + dgN tl tx a d + 1)
  else (false, a + dgN tl tx a d)
end FA
end
section
/-! WHAT THE REFERENCE'S METHODS DO (the rest) -/
section CN
/-- the reference holds Z -/
def RM (B : Nat) (M : fw_M) (Z : Zs) : Prop := M.1 (B + 493) = Z.1 ∧ M.1 (B + 492) 4 = nI Z.2.1 ∧ Z.2.1 ≤ 4 ∧ (∀ i, i < Z.2.1 → ∀ k, k < 517 → M.1 (B + 494) (517 * i + k) = Z.2.2.1 i k) ∧ M.1 (B + 492) 6 = nI Z.2.2.2.1 ∧ Z.2.2.2.1 ≤ 150 ∧ ∀ k, k < Z.2.2.2.1 → M.1 (B + 497) k = Z.2.2.2.2 k
/-- nothing but the reference's own has changed -/
def Fr (B : Nat) (M M' : fw_M) : Prop := (∀ b, b < B + 492 ∨ B + 498 ≤ b → M'.1 b = M.1 b) ∧ M'.2.1 1 = M.2.1 1 ∧ M'.2.2 = M.2.2
def GS (S : Sx) : Prop := ∃ t, t ≤ 2000 ∧ S 0 = nI t ∧ WF (6 * t) S ∧ ∀ k, 517 ≤ k → S k = 0
def GZ (Z : Zs) : Prop := GS Z.1 ∧ ∀ i, i < Z.2.1 → GS (Z.2.2.1 i)
/-- the contract of a method of the face -/
def ctM (B : Nat) (op : Op) (a : Nat) (M : fw_M) (Q : Option Value → fw_M → Prop) : Prop := a = B + 492 ∧ ∃ Z, RM B M Z ∧ GZ Z ∧ ∀ r M', ((op Z).1 = 0 → r = (op Z).2.1) → RM B M' (op Z).2.2 → M'.1 (B + 492) 7 = nI (op Z).1 → Fr B M M' → Q (some (.int r)) M'
theorem Fr_id {B : Nat} {M : fw_M} : Fr B M M := ⟨fun _ _ => rfl, rfl, rfl⟩
theorem Fr_tr {B : Nat} {M M1 M2 : fw_M} (h1 : Fr B M M1) (h2 : Fr B M1 M2) : Fr B M M2 := ⟨fun b hb => (h2.1 b hb).trans (h1.1 b hb), h2.2.1.trans h1.2.1, h2.2.2.trans h1.2.2⟩
theorem Fr_row {B o : Nat} {M : fw_M} {f : Nat → Int32} (h1 : 492 ≤ o) (h2 : o < 498) : Fr B M (fw_row M (B + o) f) := ⟨fun b hb => row_n (by omega), rfl, rfl⟩
theorem Fr_st {B k : Nat} {M : fw_M} {v : Int32} : Fr B M (fw_st M (B + 492) k v) := Fr_row (by decide) (by decide)
theorem Fr_K {B : Nat} {M : fw_M} {S : Sx} : Fr B M (mK B M S) := Fr_row (by decide) (by decide)
theorem Fr_h {B : Nat} {M : fw_M} {x : Int64} : Fr B M (fw_stl M 0 x) := ⟨fun _ _ => rfl, by show vp_updL M.2.1 0 x 1 = _; unfold vp_updL; rw [if_neg (by decide)], rfl⟩
theorem RM_K {B : Nat} {M : fw_M} {Z : Zs} {S : Sx} (h : RM B M Z) : RM B (mK B M S) (S, Z.2) := by
  obtain ⟨h1, h2, h3, h4, h5, h6, h7⟩ := h
  refine ⟨row_1, ?_, h3, fun i hi k hk => ?_, ?_, h6, fun k hk => ?_⟩
  · rw [row_n (by omega)]; exact h2
  · rw [row_n (by omega)]; exact h4 i hi k hk
  · rw [row_n (by omega)]; exact h5
  · rw [row_n (by omega)]; exact h7 k hk
theorem RM_row {B o : Nat} {M : fw_M} {Z : Zs} {f : Nat → Int32} (h : RM B M Z) (ho : o = 495 ∨ o = 496) : RM B (fw_row M (B + o) f) Z := by
  obtain ⟨h1, h2, h3, h4, h5, h6, h7⟩ := h
  refine ⟨?_, ?_, h3, fun i hi k hk => ?_, ?_, h6, fun k hk => ?_⟩
  · rw [row_n (by omega)]; exact h1
  · rw [row_n (by omega)]; exact h2
  · rw [row_n (by omega)]; exact h4 i hi k hk
  · rw [row_n (by omega)]; exact h5
  · rw [row_n (by omega)]; exact h7 k hk
theorem RM_st {B k : Nat} {M : fw_M} {Z : Zs} {v : Int32} (h : RM B M Z) (hk : k ≠ 4 ∧ k ≠ 6) : RM B (fw_st M (B + 492) k v) Z := by
  obtain ⟨h1, h2, h3, h4, h5, h6, h7⟩ := h
  rw [st_row]
  refine ⟨?_, ?_, h3, fun i hi k hk => ?_, ?_, h6, fun k hk => ?_⟩
  · rw [row_n (by omega)]; exact h1
  · rw [row_1, upd_n (by omega)]; exact h2
  · rw [row_n (by omega)]; exact h4 i hi k hk
  · rw [row_1, upd_n (by omega)]; exact h5
  · rw [row_n (by omega)]; exact h7 k hk
theorem RM_h {B : Nat} {M : fw_M} {Z : Zs} {x : Int64} (h : RM B M Z) : RM B (fw_stl M 0 x) Z := h
theorem st_s {M : fw_M} {a k : Nat} {v : Int32} : (fw_st M a k v).1 a k = v := by rw [st_row, row_1, upd_s]
theorem st_n {M : fw_M} {a k j : Nat} {v : Int32} (h : j ≠ k) : (fw_st M a k v).1 a j = M.1 a j := by rw [st_row, row_1, upd_n h]
theorem st_o {M : fw_M} {a b k : Nat} {v : Int32} (h : b ≠ a) : (fw_st M a k v).1 b = M.1 b := by rw [st_row, row_n h]
theorem GZ_wf {Z : Zs} (h : GZ Z) : ∃ t, t ≤ 2000 ∧ Z.1 0 = nI t ∧ WF (6 * t) Z.1 := by
  obtain ⟨t, h1, h2, h3, -⟩ := h.1
  exact ⟨t, h1, h2, h3⟩
def ct_X6_ends (B : Nat) : fw_CTX := fun as M Q _ => match as with
  | [.ref a, .int v] => a = B + 492 ∧ ∃ Z S0, RM B M Z ∧ (∀ k, k < 517 → M.1 (B + 495) k = S0 k) ∧ ∀ M', RM B M' (Z.1, phN Z.2.1, phH Z.2.1 Z.2.2.1 S0, Z.2.2.2.1, Z.2.2.2.2) → M'.1 (B + 492) 7 = 0 → Fr B M M' → Q (some (.int v)) M'
  | _ => False
def ct_X6_inState (B : Nat) : fw_CTX := fun as M Q _ => match as with
  | [.ref a, .int q] => a = B + 492 ∧ mS B M 3 = nI (pn (mS B M)) ∧ pn (mS B M) ≤ 24 ∧ Q (some (.int (inSt (mS B M) q (pn (mS B M))))) M
  | _ => False
def ct_X6_comes (B : Nat) : fw_CTX := fun as M Q _ => match as with
  | [.ref a, .int o, .int g, .int k, .int t] => a = B + 492 ∧ mS B M 3 = nI (pn (mS B M)) ∧ pn (mS B M) < 24 ∧ Q none (mK B M (comS (mS B M) o g k t))
  | _ => False
def ct_X6_drops (B : Nat) : fw_CTX := fun as M Q _ => match as with
  | [.ref a, .int x] => a = B + 492 ∧ ∃ b c, WF b (mS B M) ∧ c < cn (mS B M) ∧ x = nI c ∧ Q (some (.int (sC (mS B M) c 4))) (mK B M (drS (mS B M) c))
  | _ => False
def ct_X6_valueOf (B : Nat) : fw_CTX := fun as M Q _ => match as with
  | [.ref a, .int x] => a = B + 492 ∧ mS B M 3 = nI (pn (mS B M)) ∧ pn (mS B M) ≤ 24 ∧ ∃ w, w ≤ 10 ∧ x = nI w ∧ Q (some (.int (valS (mS B M) w))) M
  | _ => False
def ct_X6_courierOf (B : Nat) : fw_CTX := fun as M Q _ => match as with
  | [.ref a, .int x, .int y] => a = B + 492 ∧ mS B M 3 = nI (pn (mS B M)) ∧ pn (mS B M) ≤ 24 ∧ ∃ c w, c < 6 ∧ w ≤ 5 ∧ x = nI c ∧ y = nI w ∧ Q (some (.int (crS (mS B M) c w))) M
  | _ => False
def ct_X6_parcelOf (B : Nat) : fw_CTX := fun as M Q _ => match as with
  | [.ref a, .int x, .int y] => a = B + 492 ∧ ∃ p w, p < 24 ∧ w ≤ 8 ∧ x = nI p ∧ y = nI w ∧ Q (some (.int (paS (mS B M) p w))) M
  | _ => False
def ct_X6_apart (B : Nat) : fw_CTX := fun as M Q _ => match as with
  | [.int x, .int y] => Q (some (.int (aprt x y))) M
  | _ => False
def ct_X6_reach (B : Nat) : fw_CTX := fun as M Q _ => match as with
  | [.ref a, .int x, .int f, .int t] => a = B + 492 ∧ ∃ c i j, c < 6 ∧ i < 16 ∧ j < 16 ∧ x = nI c ∧ f = nI i ∧ t = nI j ∧ Q (some (.int (rch (mS B M) c f t))) M
  | _ => False
def ct_X6_relays (B : Nat) : fw_CTX := fun as M Q _ => match as with
  | [.ref a, .int x] => a = B + 492 ∧ ∃ b p, WF b (mS B M) ∧ p < pn (mS B M) ∧ x = nI p ∧ Q (some (.int (rel (mS B M) p))) M
  | _ => False
/-- a what-if question: the row is played on and put back -/
def ct_X6_more (B : Nat) : fw_CTX := fun as M Q _ => match as with
  | [.ref a, .int x] => a = B + 492 ∧ ∃ t n S0, t + 6 * n ≤ 40000 ∧ x = nI n ∧ WF t (mS B M) ∧ (∀ k, k < 517 → M.1 (B + 496) k = S0 k) ∧ (∀ k, 517 ≤ k → mS B M k = 0 ∧ S0 k = 0) ∧ Q (some (.int (payN (mS B M) n))) (mK B M S0)
  | _ => False
def ct_X6_paidBy (B : Nat) : fw_CTX := fun as M Q _ => match as with
  | [.ref a, .int x] => a = B + 492 ∧ ∃ t n, t + 6 * n ≤ 40000 ∧ x = nI n ∧ WF t (mS B M) ∧ (∀ k, 517 ≤ k → mS B M k = 0) ∧ ∀ M', mS B M' = mS B M → (∀ k, k < 517 → M'.1 (B + 496) k = mS B M k) → (∀ Z, RM B M Z → RM B M' Z) → Fr B M M' → Q (some (.int (payN (mS B M) n))) M'
  | _ => False
def ct_X6_isDone (B : Nat) : fw_CTX := fun as M Q _ => match as with
  | [.ref a] => a = B + 492 ∧ mS B M 3 = nI (pn (mS B M)) ∧ pn (mS B M) ≤ 24 ∧ Q (some (.int (bi (dnB (mS B M))))) M
  | _ => False
def ct_X6_addCourier (B : Nat) : fw_CTX := fun as M Q _ => match as with
  | [.ref a, .int x, .int y] => ctM B (opAdd x y) a M Q
  | _ => False
def ct_X6_setArea (B : Nat) : fw_CTX := fun as M Q _ => match as with
  | [.ref a, .int x, .int y] => ctM B (opArea x y) a M Q
  | _ => False
def ct_X6_give (B : Nat) : fw_CTX := fun as M Q _ => match as with
  | [.ref a, .int x, .int y, .int z, .int u] => ctM B (opGive x y z u) a M Q
  | _ => False
def ct_X6_setGrace (B : Nat) : fw_CTX := fun as M Q _ => match as with
  | [.ref a, .int x] => ctM B (opGrace x) a M Q
  | _ => False
def ct_X6_drop (B : Nat) : fw_CTX := fun as M Q _ => match as with
  | [.ref a, .int x] => ctM B (opDrop x) a M Q
  | _ => False
def ct_X6_run (B : Nat) : fw_CTX := fun as M Q _ => match as with
  | [.ref a, .int x] => ctM B (opRun x) a M Q
  | _ => False
def ct_X6_value (B : Nat) : fw_CTX := fun as M Q _ => match as with
  | [.ref a, .int x] => ctM B (opValue x) a M Q
  | _ => False
def ct_X6_courier (B : Nat) : fw_CTX := fun as M Q _ => match as with
  | [.ref a, .int x, .int y] => ctM B (opCourier x y) a M Q
  | _ => False
def ct_X6_parcel (B : Nat) : fw_CTX := fun as M Q _ => match as with
  | [.ref a, .int x, .int y] => ctM B (opParcel x y) a M Q
  | _ => False
def ct_X6_legs (B : Nat) : fw_CTX := fun as M Q _ => match as with
  | [.ref a, .int x, .int y, .int z] => ctM B (opLegs x y z) a M Q
  | _ => False
def ct_X6_distance (B : Nat) : fw_CTX := fun as M Q _ => match as with
  | [.ref a, .int x, .int y] => ctM B (opDist x y) a M Q
  | _ => False
def ct_X6_suited (B : Nat) : fw_CTX := fun as M Q _ => match as with
  | [.ref a, .int x] => ctM B (opSuited x) a M Q
  | _ => False
def ct_X6_leastRelay (B : Nat) : fw_CTX := fun as M Q _ => match as with
  | [.ref a, .int x] => ctM B (opRelay x) a M Q
  | _ => False
def ct_X6_punctuality (B : Nat) : fw_CTX := fun as M Q _ => match as with
  | [.ref a] => a = B + 492 ∧ ∃ Z, RM B M Z ∧ GZ Z ∧ ∀ M', RM B M' Z → Fr B M M' → Q (some (.double (punS Z.1))) M'
  | _ => False
def ct_X6_paidIn (B : Nat) : fw_CTX := fun as M Q _ => match as with
  | [.ref a, .int x] => ctM B (opPaid x) a M Q
  | _ => False
def ct_X6_bestZone (B : Nat) : fw_CTX := fun as M Q _ => match as with
  | [.ref a, .int x, .int y] => ctM B (opBest x y) a M Q
  | _ => False
def ct_X6_worth (B : Nat) : fw_CTX := fun as M Q _ => match as with
  | [.ref a, .int x, .int y] => ctM B (opWorth x y) a M Q
  | _ => False
def ct_X6_doneIn (B : Nat) : fw_CTX := fun as M Q _ => match as with
  | [.ref a] => ctM B opDone a M Q
  | _ => False
def ct_X6_append (B : Nat) : fw_CTX := fun as M Q _ => match as with
  | [.ref a, .int x] => ctM B (opAppend x) a M Q
  | _ => False
def ct_X6_clearText (B : Nat) : fw_CTX := fun as M Q _ => match as with
  | [.ref a] => ctM B opClear a M Q
  | _ => False
def ct_X6_undo (B : Nat) : fw_CTX := fun as M Q _ => match as with
  | [.ref a] => ctM B opUndo a M Q
  | _ => False
end CN
end
section
/-! the callees of each method (printed by program) -/
def cal_X6_ends (B : Nat) : List fw_Cal := [(36, 0, 6, 2, 0, fun as M Q => ct_X6_tells B as M Q (fun _ _ => False))]
def cal_X6_inState (B : Nat) : List fw_Cal := [(52, 0, 6, 3, 0, fun as M Q => ct_X6_its B as M Q (fun _ _ => False))]
def cal_X6_comes (B : Nat) : List fw_Cal := [(65, 0, 6, 4, 0, fun as M Q => ct_X6_puts B as M Q (fun _ _ => False))]
def cal_X6_drops (B : Nat) : List fw_Cal := [(44, 0, 6, 3, 0, fun as M Q => ct_X6_of B as M Q (fun _ _ => False)),
  (65, 0, 6, 4, 0, fun as M Q => ct_X6_puts B as M Q (fun _ _ => False)),
  (72, 0, 6, 2, 0, fun as M Q => ct_X6_frees B as M Q (fun _ _ => False))]
def cal_X6_valueOf (B : Nat) : List fw_Cal := [(127, 0, 6, 2, 0, fun as M Q => ct_X6_inState B as M Q (fun _ _ => False))]
def cal_X6_courierOf (B : Nat) : List fw_Cal := [(44, 0, 6, 3, 0, fun as M Q => ct_X6_of B as M Q (fun _ _ => False)),
  (52, 0, 6, 3, 0, fun as M Q => ct_X6_its B as M Q (fun _ _ => False))]
def cal_X6_parcelOf (B : Nat) : List fw_Cal := [(52, 0, 6, 3, 0, fun as M Q => ct_X6_its B as M Q (fun _ _ => False)),
  (62, 0, 6, 2, 0, fun as M Q => ct_X6_legsOf B as M Q (fun _ _ => False))]
def cal_X6_apart (B : Nat) : List fw_Cal := []
def cal_X6_reach (B : Nat) : List fw_Cal := [(55, 0, 6, 3, 0, fun as M Q => ct_X6_isIn B as M Q (fun _ _ => False)),
  (59, 1, 0, 2, 0, fun as M Q => ct_X6_next B as M Q (fun _ _ => False))]
def cal_X6_relays (B : Nat) : List fw_Cal := [(52, 0, 6, 3, 0, fun as M Q => ct_X6_its B as M Q (fun _ _ => False)),
  (148, 0, 6, 4, 0, fun as M Q => ct_X6_reach B as M Q (fun _ _ => False)),
  (145, 1, 0, 2, 0, fun as M Q => ct_X6_apart B as M Q (fun _ _ => False))]
def cal_X6_more (B : Nat) : List fw_Cal := [(130, 0, 6, 2, 0, fun as M Q => ct_X6_ticks B as M Q (fun _ _ => False)),
  (29, 1, 0, 2, 0, fun as M Q => ct_X6_copies B as M Q (fun _ _ => False))]
def cal_X6_paidBy (B : Nat) : List fw_Cal := [(29, 1, 0, 2, 0, fun as M Q => ct_X6_copies B as M Q (fun _ _ => False)),
  (155, 0, 6, 2, 0, fun as M Q => ct_X6_more B as M Q (fun _ _ => False))]
def cal_X6_isDone (B : Nat) : List fw_Cal := [(127, 0, 6, 2, 0, fun as M Q => ct_X6_inState B as M Q (fun _ _ => False))]
def cal_X6_addCourier (B : Nat) : List fw_Cal := [(101, 1, 0, 1, 0, fun as M Q => ct_X6_isArea B as M Q (fun _ _ => False)),
  (105, 1, 0, 1, 0, fun as M Q => ct_X6_isZone B as M Q (fun _ _ => False)),
  (108, 0, 6, 2, 0, fun as M Q => ct_X6_fails B as M Q (fun _ _ => False)),
  (111, 0, 6, 1, 0, fun as M Q => ct_X6_hold B as M Q (fun _ _ => False)),
  (48, 0, 6, 4, 0, fun as M Q => ct_X6_sets B as M Q (fun _ _ => False)),
  (72, 0, 6, 2, 0, fun as M Q => ct_X6_frees B as M Q (fun _ _ => False)),
  (114, 0, 6, 2, 0, fun as M Q => ct_X6_ends B as M Q (fun _ _ => False))]
def cal_X6_setArea (B : Nat) : List fw_Cal := [(117, 0, 6, 2, 0, fun as M Q => ct_X6_isCourier B as M Q (fun _ _ => False)),
  (108, 0, 6, 2, 0, fun as M Q => ct_X6_fails B as M Q (fun _ _ => False)),
  (101, 1, 0, 1, 0, fun as M Q => ct_X6_isArea B as M Q (fun _ _ => False)),
  (111, 0, 6, 1, 0, fun as M Q => ct_X6_hold B as M Q (fun _ _ => False)),
  (44, 0, 6, 3, 0, fun as M Q => ct_X6_of B as M Q (fun _ _ => False)),
  (48, 0, 6, 4, 0, fun as M Q => ct_X6_sets B as M Q (fun _ _ => False)),
  (114, 0, 6, 2, 0, fun as M Q => ct_X6_ends B as M Q (fun _ _ => False))]
def cal_X6_give (B : Nat) : List fw_Cal := [(105, 1, 0, 1, 0, fun as M Q => ct_X6_isZone B as M Q (fun _ _ => False)),
  (40, 1, 0, 3, 0, fun as M Q => ct_X6_in B as M Q (fun _ _ => False)),
  (108, 0, 6, 2, 0, fun as M Q => ct_X6_fails B as M Q (fun _ _ => False)),
  (111, 0, 6, 1, 0, fun as M Q => ct_X6_hold B as M Q (fun _ _ => False)),
  (120, 0, 6, 5, 0, fun as M Q => ct_X6_comes B as M Q (fun _ _ => False)),
  (114, 0, 6, 2, 0, fun as M Q => ct_X6_ends B as M Q (fun _ _ => False))]
def cal_X6_setGrace (B : Nat) : List fw_Cal := [(40, 1, 0, 3, 0, fun as M Q => ct_X6_in B as M Q (fun _ _ => False)),
  (108, 0, 6, 2, 0, fun as M Q => ct_X6_fails B as M Q (fun _ _ => False)),
  (111, 0, 6, 1, 0, fun as M Q => ct_X6_hold B as M Q (fun _ _ => False)),
  (114, 0, 6, 2, 0, fun as M Q => ct_X6_ends B as M Q (fun _ _ => False))]
def cal_X6_drop (B : Nat) : List fw_Cal := [(117, 0, 6, 2, 0, fun as M Q => ct_X6_isCourier B as M Q (fun _ _ => False)),
  (108, 0, 6, 2, 0, fun as M Q => ct_X6_fails B as M Q (fun _ _ => False)),
  (111, 0, 6, 1, 0, fun as M Q => ct_X6_hold B as M Q (fun _ _ => False)),
  (124, 0, 6, 2, 0, fun as M Q => ct_X6_drops B as M Q (fun _ _ => False)),
  (114, 0, 6, 2, 0, fun as M Q => ct_X6_ends B as M Q (fun _ _ => False))]
def cal_X6_run (B : Nat) : List fw_Cal := [(40, 1, 0, 3, 0, fun as M Q => ct_X6_in B as M Q (fun _ _ => False)),
  (108, 0, 6, 2, 0, fun as M Q => ct_X6_fails B as M Q (fun _ _ => False)),
  (111, 0, 6, 1, 0, fun as M Q => ct_X6_hold B as M Q (fun _ _ => False)),
  (127, 0, 6, 2, 0, fun as M Q => ct_X6_inState B as M Q (fun _ _ => False)),
  (130, 0, 6, 2, 0, fun as M Q => ct_X6_ticks B as M Q (fun _ _ => False)),
  (114, 0, 6, 2, 0, fun as M Q => ct_X6_ends B as M Q (fun _ _ => False))]
def cal_X6_value (B : Nat) : List fw_Cal := [(40, 1, 0, 3, 0, fun as M Q => ct_X6_in B as M Q (fun _ _ => False)),
  (133, 0, 6, 2, 0, fun as M Q => ct_X6_valueOf B as M Q (fun _ _ => False)),
  (36, 0, 6, 2, 0, fun as M Q => ct_X6_tells B as M Q (fun _ _ => False)),
  (108, 0, 6, 2, 0, fun as M Q => ct_X6_fails B as M Q (fun _ _ => False))]
def cal_X6_courier (B : Nat) : List fw_Cal := [(117, 0, 6, 2, 0, fun as M Q => ct_X6_isCourier B as M Q (fun _ _ => False)),
  (108, 0, 6, 2, 0, fun as M Q => ct_X6_fails B as M Q (fun _ _ => False)),
  (40, 1, 0, 3, 0, fun as M Q => ct_X6_in B as M Q (fun _ _ => False)),
  (136, 0, 6, 3, 0, fun as M Q => ct_X6_courierOf B as M Q (fun _ _ => False)),
  (36, 0, 6, 2, 0, fun as M Q => ct_X6_tells B as M Q (fun _ _ => False))]
def cal_X6_parcel (B : Nat) : List fw_Cal := [(139, 0, 6, 2, 0, fun as M Q => ct_X6_isParcel B as M Q (fun _ _ => False)),
  (108, 0, 6, 2, 0, fun as M Q => ct_X6_fails B as M Q (fun _ _ => False)),
  (40, 1, 0, 3, 0, fun as M Q => ct_X6_in B as M Q (fun _ _ => False)),
  (142, 0, 6, 3, 0, fun as M Q => ct_X6_parcelOf B as M Q (fun _ _ => False)),
  (36, 0, 6, 2, 0, fun as M Q => ct_X6_tells B as M Q (fun _ _ => False))]
def cal_X6_legs (B : Nat) : List fw_Cal := [(139, 0, 6, 2, 0, fun as M Q => ct_X6_isParcel B as M Q (fun _ _ => False)),
  (117, 0, 6, 2, 0, fun as M Q => ct_X6_isCourier B as M Q (fun _ _ => False)),
  (108, 0, 6, 2, 0, fun as M Q => ct_X6_fails B as M Q (fun _ _ => False)),
  (52, 0, 6, 3, 0, fun as M Q => ct_X6_its B as M Q (fun _ _ => False)),
  (36, 0, 6, 2, 0, fun as M Q => ct_X6_tells B as M Q (fun _ _ => False))]
def cal_X6_distance (B : Nat) : List fw_Cal := [(105, 1, 0, 1, 0, fun as M Q => ct_X6_isZone B as M Q (fun _ _ => False)),
  (108, 0, 6, 2, 0, fun as M Q => ct_X6_fails B as M Q (fun _ _ => False)),
  (145, 1, 0, 2, 0, fun as M Q => ct_X6_apart B as M Q (fun _ _ => False)),
  (36, 0, 6, 2, 0, fun as M Q => ct_X6_tells B as M Q (fun _ _ => False))]
def cal_X6_suited (B : Nat) : List fw_Cal := [(139, 0, 6, 2, 0, fun as M Q => ct_X6_isParcel B as M Q (fun _ _ => False)),
  (108, 0, 6, 2, 0, fun as M Q => ct_X6_fails B as M Q (fun _ _ => False)),
  (52, 0, 6, 3, 0, fun as M Q => ct_X6_its B as M Q (fun _ _ => False)),
  (79, 0, 6, 3, 0, fun as M Q => ct_X6_suits B as M Q (fun _ _ => False)),
  (36, 0, 6, 2, 0, fun as M Q => ct_X6_tells B as M Q (fun _ _ => False))]
def cal_X6_leastRelay (B : Nat) : List fw_Cal := [(139, 0, 6, 2, 0, fun as M Q => ct_X6_isParcel B as M Q (fun _ _ => False)),
  (152, 0, 6, 2, 0, fun as M Q => ct_X6_relays B as M Q (fun _ _ => False)),
  (36, 0, 6, 2, 0, fun as M Q => ct_X6_tells B as M Q (fun _ _ => False)),
  (108, 0, 6, 2, 0, fun as M Q => ct_X6_fails B as M Q (fun _ _ => False))]
def cal_X6_punctuality (B : Nat) : List fw_Cal := [(52, 0, 6, 3, 0, fun as M Q => ct_X6_its B as M Q (fun _ _ => False))]
def cal_X6_paidIn (B : Nat) : List fw_Cal := [(158, 1, 0, 1, 0, fun as M Q => ct_X6_isMany B as M Q (fun _ _ => False)),
  (161, 0, 6, 2, 0, fun as M Q => ct_X6_paidBy B as M Q (fun _ _ => False)),
  (36, 0, 6, 2, 0, fun as M Q => ct_X6_tells B as M Q (fun _ _ => False)),
  (108, 0, 6, 2, 0, fun as M Q => ct_X6_fails B as M Q (fun _ _ => False))]
def cal_X6_bestZone (B : Nat) : List fw_Cal := [(117, 0, 6, 2, 0, fun as M Q => ct_X6_isCourier B as M Q (fun _ _ => False)),
  (108, 0, 6, 2, 0, fun as M Q => ct_X6_fails B as M Q (fun _ _ => False)),
  (158, 1, 0, 1, 0, fun as M Q => ct_X6_isMany B as M Q (fun _ _ => False)),
  (161, 0, 6, 2, 0, fun as M Q => ct_X6_paidBy B as M Q (fun _ _ => False)),
  (55, 0, 6, 3, 0, fun as M Q => ct_X6_isIn B as M Q (fun _ _ => False)),
  (44, 0, 6, 3, 0, fun as M Q => ct_X6_of B as M Q (fun _ _ => False)),
  (48, 0, 6, 4, 0, fun as M Q => ct_X6_sets B as M Q (fun _ _ => False)),
  (155, 0, 6, 2, 0, fun as M Q => ct_X6_more B as M Q (fun _ _ => False)),
  (36, 0, 6, 2, 0, fun as M Q => ct_X6_tells B as M Q (fun _ _ => False))]
def cal_X6_worth (B : Nat) : List fw_Cal := [(117, 0, 6, 2, 0, fun as M Q => ct_X6_isCourier B as M Q (fun _ _ => False)),
  (108, 0, 6, 2, 0, fun as M Q => ct_X6_fails B as M Q (fun _ _ => False)),
  (158, 1, 0, 1, 0, fun as M Q => ct_X6_isMany B as M Q (fun _ _ => False)),
  (161, 0, 6, 2, 0, fun as M Q => ct_X6_paidBy B as M Q (fun _ _ => False)),
  (124, 0, 6, 2, 0, fun as M Q => ct_X6_drops B as M Q (fun _ _ => False)),
  (48, 0, 6, 4, 0, fun as M Q => ct_X6_sets B as M Q (fun _ _ => False)),
  (155, 0, 6, 2, 0, fun as M Q => ct_X6_more B as M Q (fun _ _ => False)),
  (36, 0, 6, 2, 0, fun as M Q => ct_X6_tells B as M Q (fun _ _ => False))]
def cal_X6_doneIn (B : Nat) : List fw_Cal := [(29, 1, 0, 2, 0, fun as M Q => ct_X6_copies B as M Q (fun _ _ => False)),
  (164, 0, 6, 1, 0, fun as M Q => ct_X6_isDone B as M Q (fun _ _ => False)),
  (97, 0, 6, 1, 0, fun as M Q => ct_X6_tick B as M Q (fun _ _ => False)),
  (36, 0, 6, 2, 0, fun as M Q => ct_X6_tells B as M Q (fun _ _ => False))]
def cal_X6_append (B : Nat) : List fw_Cal := [(40, 1, 0, 3, 0, fun as M Q => ct_X6_in B as M Q (fun _ _ => False)),
  (108, 0, 6, 2, 0, fun as M Q => ct_X6_fails B as M Q (fun _ _ => False)),
  (36, 0, 6, 2, 0, fun as M Q => ct_X6_tells B as M Q (fun _ _ => False))]
def cal_X6_clearText (B : Nat) : List fw_Cal := [(36, 0, 6, 2, 0, fun as M Q => ct_X6_tells B as M Q (fun _ _ => False))]
def cal_X6_undo (B : Nat) : List fw_Cal := [(108, 0, 6, 2, 0, fun as M Q => ct_X6_fails B as M Q (fun _ _ => False)),
  (36, 0, 6, 2, 0, fun as M Q => ct_X6_tells B as M Q (fun _ _ => False))]
end
section
/-! THE REFERENCE'S METHODS WALKED: the rest, 1 -/
section WR
theorem cle_n {a b : Nat} (ha : a < 2 ^ 31) (hb : b < 2 ^ 31) : (nI a ≤ nI b) = (a ≤ b) := propext (n_ge ha hb)
set_option maxHeartbeats 2000000 in
set_option maxRecDepth 100000 in
theorem wk_X6_ends (B : Nat) : fw_Wk B fl_X6 (cal_X6_ends B) [] cst_X6 (some .int) kX6_ends 3 (ct_X6_ends B) := by
  intro as M Q QX h
  unfold ct_X6_ends at h
  split at h
  · rename_i a v
    obtain ⟨rfl, Z, S0, hR, hS0, h⟩ := h
    obtain ⟨h1, h2, h3, h4, h5, h6, h7⟩ := hR
    generalize hn : Z.2.1 = n at h2 h3 h4 h
    -- the row of saved states, when i of the shift, when i of the copy are done; j: how many stand ahead
    have fin : ∀ j, j ≤ 3 → phN n = j + 1 → (∀ i, i < j + 1 → ∀ k, k < 517 → (if i = j then S0 k else (if n = 4 then M.1 (B + 494) (517 * i + k + 517) else M.1 (B + 494) (517 * i + k))) = phH n Z.2.2.1 S0 i k) → ∀ P : Nat → Int32, (∀ k, k < 517 * j → P k = (if n = 4 then M.1 (B + 494) (k + 517) else M.1 (B + 494) k)) → (∀ k, k < 517 → P (517 * j + k) = M.1 (B + 495) k) → Q (some (.int v)) (fw_st (fw_row (fw_st M (B + 492) 4 (nI (j + 1))) (B + 494) P) (B + 492) 7 0) := by
      intro j hj hph hH P hP1 hP2
      refine h _ ⟨?_, ?_, ?_, ?_, ?_, h6, ?_⟩ st_s (Fr_tr Fr_st (Fr_tr (Fr_row (by decide) (by decide)) Fr_st))
      · rw [st_o (by omega), row_n (by omega), st_o (by omega)]; exact h1
      · rw [st_n (by decide), row_n (by omega), st_s, hph]
      · show phN n ≤ 4; omega
      · intro i hi k hk
        have hi : i < phN n := hi
        rw [st_o (by omega), row_1]
        show P (517 * i + k) = phH n Z.2.2.1 S0 i k
        rw [← hH i (by omega) k hk]
        by_cases e : i = j
        · subst e
          rw [if_pos rfl, hP2 k hk, hS0 k hk]
        · rw [if_neg e, hP1 _ (by omega)]
      · rw [st_n (by decide), row_n (by omega), st_n (by decide)]; exact h5
      · intro k hk
        rw [st_o (by omega), row_n (by omega), st_o (by omega)]; exact h7 k hk
    refine ⟨rfl, [
      (10, [true, true, true], fun m ls st M' => ∃ i, m = 1000 + (1551 - i) ∧ n = 4 ∧ i ≤ 1551 ∧ ls = [some (.ref (B + 492)), some (.int v), some (.int (nI i))] ∧ st = [] ∧ M' = fw_row M (B + 494) (fun k => if k < i then M.1 (B + 494) (k + 517) else M.1 (B + 494) k)),
      (51, [true, true, true], fun m ls st M' => ∃ i j P, m = 517 - i ∧ i ≤ 517 ∧ j ≤ 3 ∧ phN n = j + 1 ∧ (∀ i, i < j + 1 → ∀ k, k < 517 → (if i = j then S0 k else (if n = 4 then M.1 (B + 494) (517 * i + k + 517) else M.1 (B + 494) (517 * i + k))) = phH n Z.2.2.1 S0 i k) ∧ (∀ k, k < 517 * j → P k = (if n = 4 then M.1 (B + 494) (k + 517) else M.1 (B + 494) k)) ∧ (∀ k, k < i → P (517 * j + k) = M.1 (B + 495) k) ∧ ls = [some (.ref (B + 492)), some (.int v), some (.int (nI i))] ∧ st = [] ∧ M' = fw_row (fw_st M (B + 492) 4 (nI j)) (B + 494) P)], ⟨60, ?_⟩, ?_⟩
    · refine And.intro kd_492 (And.intro (fun e => ?_) (fun e => ?_))
      · have e : ¬ M.1 (B + 492) 4 = nI 4 := e
        rw [h2, nI_eq (by omega) (by decide)] at e
        refine Exists.intro 517 (Exists.intro 0 (Exists.intro n (Exists.intro (M.1 (B + 494)) ⟨rfl, by omega, by omega, by unfold phN; rw [if_neg e], fun i hi k hk => ?_, fun k hk => by rw [if_neg e], fun k hk => by omega, rfl, rfl, ?_⟩)))
        · by_cases e2 : i = n
          · simp only [phH, if_neg e, if_pos e2]
          · simp only [phH, if_neg e, if_neg e2]
            exact h4 i (by omega) k hk
        · rw [← h2, st_row, upd_self, row_self, row_self]
      · have e : M.1 (B + 492) 4 = nI 4 := e
        rw [h2, nI_eq (by omega) (by decide)] at e
        refine Exists.intro 2551 (Exists.intro 0 ⟨rfl, e, by omega, rfl, rfl, ?_⟩)
        exact row_self.symm
    · intro q hq m ls st M' hi
      simp only [List.mem_cons, List.not_mem_nil, or_false] at hq
      rcases hq with rfl | rfl
      · obtain ⟨i, rfl, e4, hi, rfl, rfl, rfl⟩ := hi
        refine ⟨60, And.intro (fun g1 => ?_) (fun g1 => ?_)⟩
        · have g1 : nI 1551 ≤ nI i := g1
          rw [n_ge (by decide) (by omega)] at g1
          have ei : i = 1551 := by omega
          subst ei
          refine And.intro kd_492 (And.intro kd_492 ?_)
          refine Exists.intro 517 (And.intro (by omega) (Exists.intro 0 (Exists.intro 3 (Exists.intro (fun k => if k < 1551 then M.1 (B + 494) (k + 517) else M.1 (B + 494) k) ⟨rfl, by omega, by omega, by unfold phN; rw [if_pos e4], fun i hi k hk => ?_, fun k hk => by simp only [if_pos e4]; rw [if_pos (by omega)], fun k hk => by omega, rfl, rfl, ?_⟩))))
          · by_cases e2 : i = 3
            · simp only [phH, if_pos e4, if_pos e2]
            · simp only [phH, if_pos e4, if_neg e2, show 517 * i + k + 517 = 517 * (i + 1) + k by omega]
              exact h4 (i + 1) (by omega) k hk
          · rw [row_n (by omega), h2, e4, st_row, st_row, row_n (by omega), row_comm (by omega)]
            rfl
        · have g1 : ¬ nI 1551 ≤ nI i := g1
          rw [n_ge (by decide) (by omega)] at g1
          have e9 : nI i + 517 = nI (i + 517) := n_add i 517
          refine And.intro kd_492 (And.intro kd_492 (And.intro kd_494 (And.intro ?_ (And.intro kd_494 (And.intro ?_ ?_)))))
          · show fw_sd (vp_in (nI i + 517) (fw_len B (B + 494)))
            rw [ln_494, e9]; exact vn_i (by omega) (by decide)
          · show fw_sd (vp_in (nI i) (fw_len B (B + 494)))
            rw [ln_494]; exact vn_i (by omega) (by decide)
          refine Exists.intro (1000 + (1551 - (i + 1))) (And.intro (by omega) (Exists.intro (i + 1) ⟨rfl, e4, by omega, ?_, rfl, ?_⟩))
          · show [some (Value.ref (B + 492)), some (Value.int v), some (Value.int (nI i + 1))] = _
            rw [nI_1]
          · show fw_st (fw_row M (B + 494) _) (B + 494) (nI i).toNatClampNeg ((fw_row M (B + 494) _).1 (B + 494) (nI i + 517).toNatClampNeg) = _
            rw [e9, n_cl (by omega), n_cl (by omega), st_row, row_1, row_row]
            refine congrArg (fw_row M (B + 494)) (funext fun k => ?_)
            unfold upd
            by_cases e1 : k = i
            · subst e1
              simp only [if_pos]
              rw [if_neg (by omega), if_pos (by omega)]
            · simp only [if_neg e1]
              by_cases e2 : k < i
              · rw [if_pos e2, if_pos (by omega)]
              · rw [if_neg e2, if_neg (by omega)]
      · obtain ⟨i, j, P, rfl, hi, hj, hph, hH, hP1, hP2, rfl, rfl, rfl⟩ := hi
        have ej : (fw_row (fw_st M (B + 492) 4 (nI j)) (B + 494) P).1 (B + 492) 4 = nI j := by rw [row_n (by omega), st_s]
        refine ⟨60, And.intro (fun g1 => ?_) (fun g1 => ?_)⟩
        · have g1 : nI 517 ≤ nI i := g1
          rw [n_ge (by decide) (by omega)] at g1
          have ei : i = 517 := by omega
          subst ei
          refine And.intro kd_492 (And.intro kd_492 (And.intro kd_492 (And.intro rfl ?_)))
          have hf := fin j hj hph hH P hP1 hP2
          have e1 : fw_st (fw_row (fw_st M (B + 492) 4 (nI j)) (B + 494) P) (B + 492) 4 ((fw_row (fw_st M (B + 492) 4 (nI j)) (B + 494) P).1 (B + 492) 4 + 1) = fw_row (fw_st M (B + 492) 4 (nI (j + 1))) (B + 494) P := by
            rw [ej, nI_1, st_row, row_n (by omega), st_row, row_1, upd_upd, row_comm (by omega), row_row]
            rfl
          show Q (some (.int v)) (fw_st (fw_st (fw_row (fw_st M (B + 492) 4 (nI j)) (B + 494) P) (B + 492) 4 ((fw_row (fw_st M (B + 492) 4 (nI j)) (B + 494) P).1 (B + 492) 4 + 1)) (B + 492) 7 0)
          rw [e1]
          exact hf
        · have g1 : ¬ nI 517 ≤ nI i := g1
          rw [n_ge (by decide) (by omega)] at g1
          have e9 : (517 : Int32) * (fw_row (fw_st M (B + 492) 4 (nI j)) (B + 494) P).1 (B + 492) 4 + nI i = nI (517 * j + i) := by
            rw [ej, show (517 : Int32) = nI 517 from rfl, n_mul, n_add]
          refine And.intro kd_492 (And.intro kd_492 (And.intro kd_492 (And.intro kd_495 (And.intro ?_ (And.intro kd_494 (And.intro ?_ ?_))))))
          · show fw_sd (vp_in (nI i) (fw_len B (B + 495)))
            rw [ln_495]; exact vn_i (by omega) (by decide)
          · show fw_sd (vp_in ((517 : Int32) * (fw_row (fw_st M (B + 492) 4 (nI j)) (B + 494) P).1 (B + 492) 4 + nI i) (fw_len B (B + 494)))
            rw [ln_494, e9]; exact vn_i (by omega) (by decide)
          refine Exists.intro (517 - (i + 1)) (And.intro (by omega) (Exists.intro (i + 1) (Exists.intro j (Exists.intro (upd P (517 * j + i) (M.1 (B + 495) i)) ⟨rfl, by omega, hj, hph, hH, fun k hk => ?_, fun k hk => ?_, ?_, rfl, ?_⟩))))
          · rw [upd_n (by omega)]; exact hP1 k hk
          · by_cases e1 : k = i
            · subst e1; rw [upd_s]
            · rw [upd_n (by omega)]; exact hP2 k (by omega)
          · show [some (Value.ref (B + 492)), some (Value.int v), some (Value.int (nI i + 1))] = _
            rw [nI_1]
          · show fw_st (fw_row _ (B + 494) P) (B + 494) ((517 : Int32) * (fw_row (fw_st M (B + 492) 4 (nI j)) (B + 494) P).1 (B + 492) 4 + nI i).toNatClampNeg ((fw_row _ (B + 494) P).1 (B + 495) (nI i).toNatClampNeg) = _
            rw [e9, n_cl (by omega), n_cl (by omega), row_n (by omega), st_o (by omega), st_row, row_1, row_row]
  · exact h.elim
set_option maxRecDepth 100000 in
theorem wk_X6_inState (B : Nat) : fw_Wk B fl_X6 (cal_X6_inState B) [] cst_X6 (some .int) kX6_inState 4 (ct_X6_inState B) := by
  intro as M Q QX h
  unfold ct_X6_inState at h
  split at h
  · rename_i a q
    obtain ⟨rfl, hm, hm24, h⟩ := h
    generalize hN : pn (mS B M) = N at hm hm24 h
    refine ⟨rfl, [(4, [true, true, true, true], fun n ls st M' => ∃ i, n = N - i ∧ i ≤ N ∧ ls = [some (.ref (B + 492)), some (.int q), some (.int (inSt (mS B M) q i)), some (.int (nI i))] ∧ st = [] ∧ M' = M)], ⟨10, ?_⟩, ?_⟩
    · exact Exists.intro N (Exists.intro 0 ⟨rfl, by omega, rfl, rfl, rfl⟩)
    · intro q' hq n ls st M' hi
      cases List.mem_singleton.mp hq
      obtain ⟨i, rfl, hi, rfl, rfl, rfl⟩ := hi
      refine ⟨60, And.intro kd_492 (And.intro kd_493 (And.intro (vn_493 (i := 3) (by decide)) (And.intro (fun h1 => ?_) (fun h1 => ?_))))⟩
      · have h1 : mS B M' 3 ≤ nI i := h1
        rw [hm, n_ge (by omega) (by omega)] at h1
        rw [show i = N by omega]
        exact h
      · have h1 : ¬ mS B M' 3 ≤ nI i := h1
        rw [hm, n_ge (by omega) (by omega)] at h1
        refine And.intro kd_492 (And.intro rfl (And.intro (vP4 (by omega)) ?_))
        refine And.intro (fun h2 => ?_) (fun h2 => ?_)
        · simp (disch := omega) only [cx0, cx1, cx2, cx3, cx4, px0, px1, px2, px3, px4, px5, px6, px7, pxL, pxS, n_cl, cl0, cl1, cl2, cl3, cl4, cl5, cl6, b493, b494, b495, b496, b497] at h2
          refine Exists.intro (N - (i + 1)) (And.intro (by omega) (Exists.intro (i + 1) ⟨rfl, by omega, ?_, rfl, rfl⟩))
          show [some (Value.ref (B + 492)), some (Value.int q), some (Value.int (inSt (mS B M') q i + 0)), some (Value.int (nI i + 1))] = _
          rw [nI_1, inSt, if_neg (show ¬ sP (mS B M') i 4 = q from h2)]
        · simp (disch := omega) only [cx0, cx1, cx2, cx3, cx4, px0, px1, px2, px3, px4, px5, px6, px7, pxL, pxS, n_cl, cl0, cl1, cl2, cl3, cl4, cl5, cl6, b493, b494, b495, b496, b497] at h2
          refine Exists.intro (N - (i + 1)) (And.intro (by omega) (Exists.intro (i + 1) ⟨rfl, by omega, ?_, rfl, rfl⟩))
          show [some (Value.ref (B + 492)), some (Value.int q), some (Value.int (inSt (mS B M') q i + 1)), some (Value.int (nI i + 1))] = _
          rw [nI_1, inSt, if_pos (show sP (mS B M') i 4 = q from h2)]
  · exact h.elim
theorem zrP_lo {S : Sx} {p k : Nat} (h : k < 37) : ∀ w, zrP S p w k = S k := by
  intro w
  induction w with
  | zero => rfl
  | succ w ih => unfold zrP; rw [uP_lo h, ih]
set_option maxRecDepth 100000 in
theorem wk_X6_comes (B : Nat) : fw_Wk B fl_X6 (cal_X6_comes B) [] cst_X6 none kX6_comes 7 (ct_X6_comes B) := by
  intro as M Q QX h
  unfold ct_X6_comes at h
  split at h
  · rename_i a o g k t
    obtain ⟨rfl, hm, hm24, h⟩ := h
    unfold comS at h
    generalize hN : pn (mS B M) = N at hm hm24 h
    refine ⟨rfl, [(11, [true, true, true, true, true, true, true], fun n ls st M' => ∃ i, n = 20 - i ∧ i ≤ 20 ∧ ls = [some (.ref (B + 492)), some (.int o), some (.int g), some (.int k), some (.int t), some (.int (nI N)), some (.int (nI i))] ∧ st = [] ∧ M' = mK B M (zrP (mS B M) N i))], ⟨20, ?_⟩, ?_⟩
    · refine And.intro kd_492 (And.intro kd_493 (And.intro (vn_493 (i := 3) (by decide)) (Exists.intro 20 (Exists.intro 0 ⟨rfl, by omega, ?_, rfl, mK_S.symm⟩))))
      show [some (Value.ref (B + 492)), some (Value.int o), some (Value.int g), some (Value.int k), some (Value.int t), some (Value.int (mS B M 3)), some (Value.int 0)] = _
      rw [hm]
      rfl
    · intro q' hq n ls st M' hi
      cases List.mem_singleton.mp hq
      obtain ⟨i, rfl, hi, rfl, rfl, rfl⟩ := hi
      refine ⟨100, And.intro (fun h1 => ?_) (fun h1 => ?_)⟩
      · have h1 : nI 20 ≤ nI i := h1
        rw [n_ge (by decide) (by omega)] at h1
        have ei : i = 20 := by omega
        subst ei
        have z3 : zrP (mS B M) N 20 3 = mS B M 3 := zrP_lo (by decide) 20
        repeat' first
          | refine And.intro ?_ ?_
          | intro _
          | exact kd_492
          | exact kd_493
          | exact rfl
          | exact bi_01
          | exact vnl_493 (by decide)
          | (simp (disch := omega) only [cx0, cx1, cx2, cx3, cx4, px0, px1, px2, px3, px4, px5, px6, px7, pxL, pxS, n_cl, cl0, cl1, cl2, cl3, cl4, cl5, cl6, b493, b494, b495, b496, b497]; exact vn_i (by omega) (by decide))
          | exact Or.inl rfl
          | exact Or.inr rfl
        conv => whnf
        simp (disch := omega) only [cx0, cx1, cx2, cx3, cx4, px0, px1, px2, px3, px4, px5, px6, px7, pxL, pxS, n_cl, cl0, cl1, cl2, cl3, cl4, cl5, cl6, b493, b494, b495, b496, b497, row_1, row_row, st_row, upd_s, upd_n, mS_K, mK_K, z3]
        exact h
      · have h1 : ¬ nI 20 ≤ nI i := h1
        rw [n_ge (by decide) (by omega)] at h1
        refine And.intro kd_492 (And.intro rfl (And.intro ?_ ?_))
        · show fw_sd (vp_in ((37 : Int32) + 20 * nI N + nI i) 517)
          rw [ixP]; exact vn_i (by omega) (by decide)
        refine Exists.intro (20 - (i + 1)) (And.intro (by omega) (Exists.intro (i + 1) ⟨rfl, by omega, ?_, rfl, ?_⟩))
        · show [some (Value.ref (B + 492)), some (Value.int o), some (Value.int g), some (Value.int k), some (Value.int t), some (Value.int (nI N)), some (Value.int (nI i + 1))] = _
          rw [nI_1]
        · show mK B (mK B M _) (upd (mS B (mK B M _)) ((37 : Int32) + 20 * nI N + nI i).toNatClampNeg 0) = _
          rw [ixP, n_cl (by omega), mS_K, mK_K]
          rfl
  · exact h.elim
set_option maxRecDepth 100000 in
theorem wk_X6_drops (B : Nat) : fw_Wk B fl_X6 (cal_X6_drops B) [] cst_X6 (some .int) kX6_drops 3 (ct_X6_drops B) := by
  intro as M Q QX h
  unfold ct_X6_drops at h
  split at h
  · obtain ⟨rfl, b, c, hW, hcn, rfl, h⟩ := h
    have hn6 := hW.2.1
    have hm := hW.2.2.2.1
    have hc : c < 6 := by omega
    unfold drS at h
    refine ⟨rfl, [], ⟨200, ?_⟩, nofun⟩
    refine And.intro kd_492 (And.intro rfl (And.intro (vC4 hc) (And.intro kd_492 (And.intro rfl (And.intro (vC3 hc) ?_)))))
    refine And.intro (fun h1 => ?_) (fun h1 => ?_)
    · simp (disch := omega) only [cx0, cx1, cx2, cx3, cx4, px0, px1, px2, px3, px4, px5, px6, px7, pxL, pxS, n_cl, cl0, cl1, cl2, cl3, cl4, cl5, cl6, b493, b494, b495, b496, b497] at h1
      rw [if_neg (show ¬ sC (mS B M) c 3 = 2 from h1)] at h
      refine And.intro kd_492 (And.intro rfl (Exists.intro c (And.intro hc (And.intro rfl ?_))))
      conv => whnf
      simp (disch := omega) only [cx0, cx1, cx2, cx3, cx4, px0, px1, px2, px3, px4, px5, px6, px7, pxL, pxS, n_cl, cl0, cl1, cl2, cl3, cl4, cl5, cl6, b493, b494, b495, b496, b497, row_1, row_row, st_row, upd_s, upd_n, mS_K, mK_K]
      exact h
    · simp (disch := omega) only [cx0, cx1, cx2, cx3, cx4, px0, px1, px2, px3, px4, px5, px6, px7, pxL, pxS, n_cl, cl0, cl1, cl2, cl3, cl4, cl5, cl6, b493, b494, b495, b496, b497] at h1
      have h1 : sC (mS B M) c 3 = 2 := h1
      rw [if_pos h1] at h
      obtain ⟨p, hp, ep, ep2⟩ := WF_with hW hcn (by rw [h1]; decide)
      have ep3 : mS B M (7 + 5 * c + 4) = nI p := ep
      rw [ep2] at h
      refine And.intro kd_492 (And.intro rfl (And.intro ?_ (And.intro kd_492 (And.intro rfl (Exists.intro c (And.intro hc (And.intro rfl ?_)))))))
      · show fw_sd (vp_in ((37 : Int32) + 20 * mS B M ((7 : Int32) + 5 * nI c + 4).toNatClampNeg + 4) 517)
        rw [cx4, n_cl (by omega), ep3]
        exact vP4 (by omega)
      · conv => whnf
        simp (disch := omega) only [cx0, cx1, cx2, cx3, cx4, px0, px1, px2, px3, px4, px5, px6, px7, pxL, pxS, n_cl, cl0, cl1, cl2, cl3, cl4, cl5, cl6, b493, b494, b495, b496, b497, row_1, row_row, st_row, upd_s, upd_n, mS_K, mK_K, ep3]
        rw [ep] at h
        exact h
  · exact h.elim
set_option maxRecDepth 100000 in
theorem wk_X6_valueOf (B : Nat) : fw_Wk B fl_X6 (cal_X6_valueOf B) [] cst_X6 (some .int) kX6_valueOf 2 (ct_X6_valueOf B) := by
  intro as M Q QX h
  unfold ct_X6_valueOf at h
  split at h
  · obtain ⟨rfl, hm, hm24, w, hw, rfl, h⟩ := h
    have e : (nI w).toInt = (w : Int) := nI_toInt (by omega)
    have es : ∀ j, w = j + 4 → nI w - (4 : Int32) = nI j := fun j hj => by rw [hj, n_sub4]
    have cs : ∀ P : Prop, (w = 0 → P) → (w = 1 → P) → (w = 2 → P) → (w = 3 → P) → (4 ≤ w → w ≤ 7 → P) → (w = 8 → P) → (w = 9 → P) → (w = 10 → P) → P := by
      intro P p0 p1 p2 p3 p4 p8 p9 p10
      rcases (show w = 0 ∨ w = 1 ∨ w = 2 ∨ w = 3 ∨ (4 ≤ w ∧ w ≤ 7) ∨ w = 8 ∨ w = 9 ∨ w = 10 by omega) with y | y | y | y | y | y | y | y
      · exact p0 y
      · exact p1 y
      · exact p2 y
      · exact p3 y
      · exact p4 y.1 y.2
      · exact p8 y
      · exact p9 y
      · exact p10 y
    have f4 : 4 ≤ w → w ≤ 7 → valS (mS B M) w = inSt (mS B M) (nI w - 4) (pn (mS B M)) := by
      intro y1 y2
      unfold valS
      rw [if_neg (by omega), if_neg (by omega), if_neg (by omega), if_neg (by omega), if_neg (by omega), if_neg (by omega), if_neg (by omega), es (w - 4) (by omega)]
    have A0 : ∀ {z : Int}, (w : Int) ≠ z → (nI w).toInt = z → False := fun h1 h2 => h1 (by rw [← e]; exact h2)
    refine ⟨rfl, [], ⟨60, ?_⟩, nofun⟩
    refine And.intro (And.intro (fun z => ?_) (And.intro (fun z => ?_) (And.intro (fun z => ?_) (And.intro (fun z => ?_) (And.intro (fun z => ?_) (And.intro (fun z => ?_) (And.intro (fun z => ?_) (And.intro (fun z => ?_) (And.intro (fun z => ?_) (And.intro (fun z => ?_) trivial)))))))))) (fun z => ?_)
    · have z : w = 0 := by rw [e] at z; omega
      subst z
      exact And.intro kd_492 (And.intro kd_493 (And.intro (vn_493 (i := 0) (by decide)) h))
    · have z : w = 1 := by rw [e] at z; omega
      subst z
      exact And.intro kd_492 (And.intro kd_493 (And.intro (vn_493 (i := 2) (by decide)) h))
    · have z : w = 2 := by rw [e] at z; omega
      subst z
      exact And.intro kd_492 (And.intro kd_493 (And.intro (vn_493 (i := 3) (by decide)) h))
    · have z : w = 3 := by rw [e] at z; omega
      subst z
      exact And.intro kd_492 (And.intro kd_493 (And.intro (vn_493 (i := 1) (by decide)) h))
    · have z : w = 4 := by rw [e] at z; omega
      rw [f4 (by omega) (by omega)] at h
      exact And.intro kd_492 (And.intro rfl (And.intro hm (And.intro hm24 h)))
    · have z : w = 5 := by rw [e] at z; omega
      rw [f4 (by omega) (by omega)] at h
      exact And.intro kd_492 (And.intro rfl (And.intro hm (And.intro hm24 h)))
    · have z : w = 6 := by rw [e] at z; omega
      rw [f4 (by omega) (by omega)] at h
      exact And.intro kd_492 (And.intro rfl (And.intro hm (And.intro hm24 h)))
    · have z : w = 7 := by rw [e] at z; omega
      rw [f4 (by omega) (by omega)] at h
      exact And.intro kd_492 (And.intro rfl (And.intro hm (And.intro hm24 h)))
    · have z : w = 8 := by rw [e] at z; omega
      subst z
      exact And.intro kd_492 (And.intro kd_493 (And.intro (vn_493 (i := 6) (by decide)) h))
    · have z : w = 9 := by rw [e] at z; omega
      subst z
      exact And.intro kd_492 (And.intro kd_493 (And.intro (vn_493 (i := 4) (by decide)) h))
    · have z : w = 10 := by rw [e] at z; omega
      subst z
      exact And.intro kd_492 (And.intro kd_493 (And.intro (vn_493 (i := 5) (by decide)) h))
  · exact h.elim
set_option maxRecDepth 100000 in
theorem wk_X6_courierOf (B : Nat) : fw_Wk B fl_X6 (cal_X6_courierOf B) [] cst_X6 (some .int) kX6_courierOf 5 (ct_X6_courierOf B) := by
  intro as M Q QX h
  unfold ct_X6_courierOf at h
  split at h
  · obtain ⟨rfl, hm, hm24, c, w, hc, hw, rfl, rfl, h⟩ := h
    generalize hN : pn (mS B M) = N at hm hm24
    unfold crS at h
    rw [hN] at h
    refine ⟨rfl, [(17, [true, true, false, true, true], fun n ls st M' => ∃ i, n = N - i ∧ ¬ w < 5 ∧ i ≤ N ∧ ls = [some (.ref (B + 492)), some (.int (nI c)), none, some (.int (lgC (mS B M) c i)), some (.int (nI i))] ∧ st = [] ∧ M' = M)], ⟨30, ?_⟩, ?_⟩
    · refine And.intro (fun h1 => ?_) (fun h1 => ?_)
      · have h1 : nI 5 ≤ nI w := h1
        rw [n_ge (by decide) (by omega)] at h1
        exact Exists.intro N (Exists.intro 0 ⟨rfl, by omega, by omega, rfl, rfl, rfl⟩)
      · have h1 : ¬ nI 5 ≤ nI w := h1
        rw [n_ge (by decide) (by omega)] at h1
        rw [if_pos (by omega)] at h
        refine And.intro kd_492 (And.intro rfl (And.intro ?_ ?_))
        · show fw_sd (vp_in ((7 : Int32) + 5 * nI c + nI w) 517)
          rw [ixC]; exact vn_i (by omega) (by decide)
        · conv => whnf
          rw [ixC, n_cl (by omega)]
          exact h
    · intro q' hq n ls st M' hi
      cases List.mem_singleton.mp hq
      obtain ⟨i, rfl, hw5, hi, rfl, rfl, rfl⟩ := hi
      rw [if_neg hw5] at h
      refine ⟨60, And.intro kd_492 (And.intro kd_493 (And.intro (vn_493 (i := 3) (by decide)) (And.intro (fun h1 => ?_) (fun h1 => ?_))))⟩
      · have h1 : mS B M' 3 ≤ nI i := h1
        rw [hm, n_ge (by omega) (by omega)] at h1
        rw [show i = N by omega]
        exact h
      · have h1 : ¬ mS B M' 3 ≤ nI i := h1
        rw [hm, n_ge (by omega) (by omega)] at h1
        refine And.intro kd_492 (And.intro rfl (And.intro (vPL (by omega) hc) ?_))
        refine Exists.intro (N - (i + 1)) (And.intro (by omega) (Exists.intro (i + 1) ⟨rfl, hw5, by omega, ?_, rfl, rfl⟩))
        show [some (Value.ref (B + 492)), some (Value.int (nI c)), none, some (Value.int (lgC (mS B M') c i + mS B M' ((37 : Int32) + 20 * nI i + (8 + nI c)).toNatClampNeg)), some (Value.int (nI i + 1))] = _
        rw [nI_1, pxL, n_cl (by omega)]
        rfl
  · exact h.elim
set_option maxRecDepth 100000 in
theorem wk_X6_parcelOf (B : Nat) : fw_Wk B fl_X6 (cal_X6_parcelOf B) [] cst_X6 (some .int) kX6_parcelOf 3 (ct_X6_parcelOf B) := by
  intro as M Q QX h
  unfold ct_X6_parcelOf at h
  split at h
  · obtain ⟨rfl, p, w, hp, hw, rfl, rfl, h⟩ := h
    unfold paS at h
    refine ⟨rfl, [], ⟨30, And.intro (fun h1 => ?_) (fun h1 => ?_)⟩, nofun⟩
    · have h1 : nI 8 ≤ nI w := h1
      rw [n_ge (by decide) (by omega)] at h1
      rw [if_neg (by omega)] at h
      exact And.intro kd_492 (And.intro rfl (Exists.intro p (And.intro hp (And.intro rfl h))))
    · have h1 : ¬ nI 8 ≤ nI w := h1
      rw [n_ge (by decide) (by omega)] at h1
      rw [if_pos (by omega)] at h
      refine And.intro kd_492 (And.intro rfl (And.intro ?_ ?_))
      · show fw_sd (vp_in ((37 : Int32) + 20 * nI p + nI w) 517)
        rw [ixP]; exact vn_i (by omega) (by decide)
      · conv => whnf
        rw [ixP, n_cl (by omega)]
        exact h
  · exact h.elim
set_option maxRecDepth 100000 in
theorem wk_X6_apart (B : Nat) : fw_Wk B fl_X6 (cal_X6_apart B) [] cst_X6 (some .int) kX6_apart 2 (ct_X6_apart B) := by
  intro as M Q QX h
  unfold ct_X6_apart at h
  split at h
  · unfold aprt at h
    refine ⟨rfl, [], ⟨30, And.intro (fun h1 => ?_) (fun h1 => ?_)⟩, nofun⟩
    · rw [if_neg (Int32.not_lt.mpr h1)] at h
      exact h
    · rw [if_pos (Int32.not_le.mp h1)] at h
      exact h
  · exact h.elim
end WR
end
section
/-! NOTHING BEHIND THE ROW CHANGES -/
section HI
theorem uC_hi {S : Sx} {c w k : Nat} {v : Int32} (hc : c < 6) (hw : w < 5) (hk : 517 ≤ k) : uC S c w v k = S k := upd_n (by omega)
theorem uP_hi {S : Sx} {p w k : Nat} {v : Int32} (hp : p < 24) (hw : w < 20) (hk : 517 ≤ k) : uP S p w v k = S k := upd_n (by omega)
theorem frS_hi {S : Sx} {c k : Nat} (hc : c < 6) (hk : 517 ≤ k) : frS S c k = S k := by
  unfold frS; rw [uC_hi hc (by decide) hk, uC_hi hc (by decide) hk]
theorem shW_hi {S : Sx} {p k : Nat} {m : Int32} (hp : p < 24) (hk : 517 ≤ k) : ∀ i, i ≤ 6 → shW S p m i k = S k := by
  intro i
  induction i with
  | zero => intro _; rfl
  | succ i ih => intro hi; unfold shW; rw [uP_hi hp (by omega) hk, ih (by omega)]
theorem tipW_hi {S : Sx} {p k : Nat} (hk : 517 ≤ k) : ∀ i, i ≤ 6 → tipW S p i k = S k := by
  intro i
  induction i with
  | zero => intro _; rfl
  | succ i ih => intro hi; unfold tipW; rw [uC_hi (by omega) (by decide) hk, ih (by omega)]
theorem shareS_hi {S : Sx} {p k : Nat} {m : Int32} (hp : p < 24) (hn : cn S ≤ 6) (hk : 517 ≤ k) : shareS S p m k = S k := by
  unfold shareS; rw [tipW_hi hk _ hn, shW_hi hp hk 6 (Nat.le_refl 6)]
theorem delS_hi {S : Sx} {c p k : Nat} (hc : c < 6) (hp : p < 24) (hn : cn S ≤ 6) (hk : 517 ≤ k) : delS S c p k = S k := by
  rw [delS_eq, frS_hi hc hk, shareS_hi hp (by rw [cn_eq (dl1_lo (by decide))]; exact hn) hk]
  unfold dl1
  rw [upd_n (by omega), uP_hi hp (by decide) hk, uP_hi hp (by decide) hk, uP_hi hp (by decide) hk]
theorem legS_hi {S : Sx} {c p k : Nat} {z : Int32} (hc : c < 6) (hp : p < 24) (hk : 517 ≤ k) : legS S c p z k = S k := by
  unfold legS
  rw [uP_hi hp (by omega) hk, uP_hi hp (by decide) hk, upd_n (by omega), uC_hi hc (by decide) hk]
theorem carS_hi {S : Sx} {c p k : Nat} (hc : c < 6) (hp : p < 24) (hn : cn S ≤ 6) (hk : 517 ≤ k) : carS S c p k = S k := by
  unfold carS
  split
  · split
    · rw [delS_hi hc hp (by rw [cn_eq (legS_lo (by decide))]; exact hn) hk, legS_hi hc hp hk]
    · exact legS_hi hc hp hk
  · rw [frS_hi hc hk, upd_n (by omega), uP_hi hp (by decide) hk]
theorem goS_hi {S : Sx} {c p k : Nat} (hc : c < 6) (hp : p < 24) (hk : 517 ≤ k) : goS S c p k = S k := by
  unfold goS
  split
  · rw [uP_hi hp (by decide) hk, uC_hi hc (by decide) hk]
  · rw [upd_n (by omega), uC_hi hc (by decide) hk]
theorem chS_hi {S : Sx} {c k : Nat} (hc : c < 6) (hk : 517 ≤ k) : chS S c k = S k := by
  unfold chS; rw [uC_hi hc (by decide) hk, uC_hi hc (by decide) hk]
theorem actS_hi {b : Nat} {S : Sx} {c k : Nat} (h : WF b S) (hc : c < cn S) (hk : 517 ≤ k) : actS S c k = S k := by
  have hn := h.2.1
  have hm := h.2.2.2.1
  unfold actS
  split
  · rename_i e
    obtain ⟨p, hp, -, e2⟩ := WF_with h hc (by rw [e]; decide)
    rw [e2]; exact carS_hi (by omega) (by omega) hn hk
  · split
    · rename_i e
      obtain ⟨p, hp, -, e2⟩ := WF_with h hc (by rw [e.1]; decide)
      rw [e2]; exact goS_hi (by omega) (by omega) hk
    · exact chS_hi (by omega) hk
theorem actW_hi {b : Nat} {S : Sx} {k : Nat} (h : WF b S) (hk : 517 ≤ k) : ∀ i, i ≤ cn S → actW S i k = S k := by
  intro i
  induction i with
  | zero => intro _; rfl
  | succ i ih =>
    intro hi
    unfold actW
    have hw := WF_actW h i (by omega)
    rw [actS_hi hw (by rw [cn_eq (actW_lo (by decide) i)]; omega) hk, ih (by omega)]
theorem frW_hi {S : Sx} {p k : Nat} (hk : 517 ≤ k) : ∀ i, i ≤ 6 → frW S p i k = S k := by
  intro i
  induction i with
  | zero => intro _; rfl
  | succ i ih =>
    intro hi
    unfold frW
    split
    · rw [frS_hi (by omega) hk, ih (by omega)]
    · exact ih (by omega)
theorem faiS_hi {S : Sx} {p k : Nat} (hp : p < 24) (hn : cn S ≤ 6) (hk : 517 ≤ k) : faiS S p k = S k := by
  unfold faiS; rw [frW_hi hk _ hn, uP_hi hp (by decide) hk]
theorem flW_hi {S : Sx} {k : Nat} (hn : cn S ≤ 6) (hk : 517 ≤ k) : ∀ i, i ≤ 24 → flW S i k = S k := by
  intro i
  induction i with
  | zero => intro _; rfl
  | succ i ih =>
    intro hi
    unfold flW
    split
    · rw [faiS_hi (by omega) (by rw [cn_eq (flW_lo (by decide) i)]; exact hn) hk, ih (by omega)]
    · exact ih (by omega)
theorem tickS_hi {b : Nat} {S : Sx} {k : Nat} (h : WF b S) (hk : 517 ≤ k) : tickS S k = S k := by
  have e : cn (upd S 0 (S 0 + 1)) = cn S := cn_eq (upd_n (by decide))
  have hw := WF_time (S 0 + 1) h
  have hA : cn (tkA S) = cn S := cn_eq (tkA_lo (by decide) (by decide))
  unfold tickS
  rw [flW_hi (by rw [hA]; exact h.2.1) hk _ (by first | exact h.2.2.2.1 | (rw [pn_eq (tkA_lo (by decide) (by decide))]; exact h.2.2.2.1))]
  unfold tkA
  rw [← e, actW_hi hw hk _ (Nat.le_refl _), upd_n (by omega)]
theorem tkN_hi {b : Nat} {S : Sx} {k : Nat} (h : WF b S) (hk : 517 ≤ k) : ∀ n, tkN S n k = S k := by
  intro n
  induction n with
  | zero => rfl
  | succ n ih => unfold tkN; rw [tickS_hi (WF_tkN h n) hk, ih]
/-! the time -/
theorem upd0 {S : Sx} {v : Int32} : upd S 0 v 0 = v := upd_s
theorem tickS_0 {S : Sx} : tickS S 0 = S 0 + 1 := by
  unfold tickS tkA
  rw [flW_lo (by decide), actW_lo (by decide), upd_s]
theorem tkN_0 {S : Sx} {t : Nat} (h : S 0 = nI t) : ∀ n, tkN S n 0 = nI (t + n) := by
  intro n
  induction n with
  | zero => exact h
  | succ n ih => unfold tkN; rw [tickS_0, ih, nI_1]; rfl
theorem tkN_lo {S : Sx} {k : Nat} (h : k < 4) (h0 : k ≠ 0) : ∀ n, tkN S n k = S k := by
  intro n
  induction n with
  | zero => rfl
  | succ n ih => unfold tkN; rw [tickS_lo h h0, ih]
theorem GS_tkN {S : Sx} {n t : Nat} (h : WF (6 * t) S) (h0 : S 0 = nI t) (hz : ∀ k, 517 ≤ k → S k = 0) (ht : t + n ≤ 2000) : GS (tkN S n) := by
  refine ⟨t + n, ht, tkN_0 h0 n, ?_, fun k hk => by rw [tkN_hi h hk]; exact hz k hk⟩
  rw [Nat.mul_add]
  exact WF_tkN h n
/-! what the calls of the face leave well -/
theorem WF_area {b : Nat} {S : Sx} {c : Nat} {v : Int32} (h : WF b S) (hc : c < 6) : WF b (uC S c 0 v) := by
  obtain ⟨h2, hn, h3, hm, hC, hU, hP⟩ := h
  have e2 : cn (uC S c 0 v) = cn S := cn_eq (uC_lo (by decide))
  have e3 : pn (uC S c 0 v) = pn S := pn_eq (uC_lo (by decide))
  have eC : ∀ d x, x < 5 → x ≠ 0 → sC (uC S c 0 v) d x = sC S d x := fun d x hx h0 => by rw [gCC hx (by decide), if_neg (fun z => h0 z.2)]
  have eP : ∀ p x, sP (uC S c 0 v) p x = sP S p x := fun p x => gPC hc (by decide)
  refine ⟨by rw [e2, uC_lo (by decide)]; exact h2, by rw [e2]; exact hn, by rw [e3, uC_lo (by decide)]; exact h3, by rw [e3]; exact hm, fun d hd => ?_, fun d e hd he => ?_, fun p hp => ?_⟩
  · rw [e2] at hd
    have := hC d hd
    unfold WFc at this ⊢
    rw [eC d 1 (by decide) (by decide), eC d 3 (by decide) (by decide), eC d 4 (by decide) (by decide), e3]
    simp only [eP]
    exact this
  · rw [e2] at hd he
    rw [eC d 3 (by decide) (by decide), eC e 3 (by decide) (by decide), eC d 4 (by decide) (by decide), eC e 4 (by decide) (by decide)]
    exact hU d e hd he
  · rw [e3] at hp
    have := hP p hp
    unfold WFp at this ⊢
    simp only [eP]
    exact this
theorem WF_grace {b : Nat} {S : Sx} {v : Int32} (h : WF b S) : WF b (upd S 1 v) := by
  obtain ⟨h2, hn, h3, hm, hC, hU, hP⟩ := h
  have e2 : cn (upd S 1 v) = cn S := cn_eq (upd_n (by decide))
  have e3 : pn (upd S 1 v) = pn S := pn_eq (upd_n (by decide))
  have eC : ∀ d x, sC (upd S 1 v) d x = sC S d x := fun d x => gCu (by decide)
  have eP : ∀ p x, sP (upd S 1 v) p x = sP S p x := fun p x => gPu (by decide)
  refine ⟨by rw [e2, upd_n (by decide)]; exact h2, by rw [e2]; exact hn, by rw [e3, upd_n (by decide)]; exact h3, by rw [e3]; exact hm, fun d hd => ?_, fun d e hd he => ?_, fun p hp => ?_⟩
  · rw [e2] at hd
    have := hC d hd
    unfold WFc at this ⊢
    simp only [eC, eP, e3]
    exact this
  · rw [e2] at hd he
    simp only [eC]
    exact hU d e hd he
  · rw [e3] at hp
    have := hP p hp
    unfold WFp at this ⊢
    simp only [eP]
    exact this
theorem WF_frs {b : Nat} {S : Sx} {c : Nat} (h : WF b S) (hc : c < cn S) : WF b (frS S c) := by
  have hn := h.2.1
  refine WF_step (S := S) h hc (frS_lo (by decide)) (frS_lo (by decide)) (fun d hd hne => ?_) ?_ (Or.inl ?_) (fun q hq => ?_) (fun z => ?_) (fun q hq => ?_)
  · refine ⟨?_, ?_, ?_⟩ <;> rw [frS_C (by decide), if_neg (by omega), if_neg (by omega)]
  · obtain ⟨z, hz, ez⟩ := (h.2.2.2.2.1 c hc).1
    exact ⟨z, hz, by rw [frS_C (by decide), if_neg (by omega), if_neg (by omega)]; exact ez⟩
  · refine ⟨?_, ?_⟩
    · rw [frS_C (by decide), if_neg (by omega), if_pos ⟨rfl, rfl⟩]
    · rw [frS_C (by decide), if_pos ⟨rfl, rfl⟩]
  · exact Or.inl (frS_P (by omega))
  · exfalso
    rw [frS_C (by decide), if_neg (by omega), if_pos ⟨rfl, rfl⟩] at z
    exact absurd z (by decide)
  · exact WFp_le (Nat.le_refl b) (h.2.2.2.2.2.2 q hq) (fun x hx k4 k6 k7 => frS_P (by omega)) (by rw [frS_P (by omega)]; exact (h.2.2.2.2.2.2 q hq).2.2.2.1)
theorem WF_dr {b : Nat} {S : Sx} {c : Nat} (h : WF b S) (hc : c < cn S) : WF b (drS S c) := by
  have hn := h.2.1
  unfold drS
  split
  · rename_i e
    obtain ⟨p, hp, e4, e2⟩ := WF_with h hc (by rw [e]; decide)
    have hw := WF_frees h hc e e4 hp (S 4)
    rw [show upd (uP S p 4 0) 4 (S 4) = uP S p 4 0 from by
      refine funext fun k => ?_
      by_cases z : k = 4
      · subst z; rw [upd_s, uP_lo (by decide)]
      · rw [upd_n z]] at hw
    rw [e2]; exact hw
  · exact WF_frs h hc
theorem drS_hi {b : Nat} {S : Sx} {c k : Nat} (h : WF b S) (hc : c < cn S) (hk : 517 ≤ k) : drS S c k = S k := by
  have hn := h.2.1
  have hm := h.2.2.2.1
  unfold drS
  rw [frS_hi (by omega) hk]
  split
  · rename_i e
    obtain ⟨p, hp, e4, e2⟩ := WF_with h hc (by rw [e]; decide)
    rw [e2, uP_hi (by omega) (by decide) hk]
  · rfl
theorem drS_lo {S : Sx} {c k : Nat} (h : k < 7) : drS S c k = S k := by
  unfold drS
  rw [frS_lo h]
  split
  · rw [uP_lo (by omega)]
  · rfl
theorem nI_suc {x : Int32} {n : Nat} (h : x = nI n) : x + 1 = nI (n + 1) := by rw [h, nI_1]
theorem WF_add {b : Nat} {S : Sx} {ar : Int32} {z : Nat} (h : WF b S) (hc : cn S < 6) (hz : z < 16) : WF b (addS S ar (nI z)) := by
  obtain ⟨h2, hn, h3, hm, hC, hU, hP⟩ := h
  have f2 : addS S ar (nI z) 2 = nI (cn S + 1) := by unfold addS; rw [upd_s]; exact nI_suc h2
  have f3 : addS S ar (nI z) 3 = S 3 := by unfold addS; rw [upd_n (by decide), frS_lo (by decide), uC_lo (by decide), uC_lo (by decide), uC_lo (by decide)]
  have e2 : cn (addS S ar (nI z)) = cn S + 1 := by unfold cn; rw [f2, n_cl (by unfold cn at hc; omega)]; rfl
  have e3 : pn (addS S ar (nI z)) = pn S := pn_eq f3
  have eP : ∀ p x, sP (addS S ar (nI z)) p x = sP S p x := fun p x => by
    unfold addS; rw [gPu (by decide), frS_P (by omega), gPC (by omega) (by decide), gPC (by omega) (by decide), gPC (by omega) (by decide)]
  have eC : ∀ d x, x < 5 → sC (addS S ar (nI z)) d x = if d = cn S then (if x = 4 then -1 else if x = 3 then 0 else if x = 2 then 0 else if x = 1 then nI z else ar) else sC S d x := fun d x hx => by
    unfold addS
    rw [gCu (by decide), frS_C hx, gCC hx (by decide), gCC hx (by decide), gCC hx (by decide)]
    by_cases e : d = cn S
    · subst e
      rw [if_pos rfl]
      rcases (show x = 0 ∨ x = 1 ∨ x = 2 ∨ x = 3 ∨ x = 4 by omega) with y | y | y | y | y <;> subst y <;> simp
    · simp only [e, false_and, if_false]
  refine ⟨by rw [e2]; exact f2, by rw [e2]; omega, by rw [e3, f3]; exact h3, by rw [e3]; exact hm, fun d hd => ?_, fun d e hd he => ?_, fun p hp => ?_⟩
  · rw [e2] at hd
    unfold WFc
    rw [eC d 1 (by decide), eC d 3 (by decide), eC d 4 (by decide), e3]
    simp only [eP]
    by_cases e : d = cn S
    · subst e
      exact ⟨⟨z, hz, by simp⟩, Or.inl ⟨by simp, by simp⟩⟩
    · simp only [if_neg e]
      exact hC d (by omega)
  · rw [e2] at hd he
    rw [eC d 3 (by decide), eC e 3 (by decide), eC d 4 (by decide), eC e 4 (by decide)]
    by_cases g : d = cn S
    · simp only [if_pos g]; intro y; exact absurd (show (0 : Int32) = 2 from y) (by decide)
    · by_cases g2 : e = cn S
      · simp only [if_pos g2]; intro _ y; exact absurd (show (0 : Int32) = 2 from y) (by decide)
      · simp only [if_neg g, if_neg g2]
        exact hU d e (by omega) (by omega)
  · rw [e3] at hp
    have := hP p hp
    unfold WFp at this ⊢
    simp only [eP]
    exact this
theorem add_hi {S : Sx} {ar z : Int32} {k : Nat} (hc : cn S < 6) (hk : 517 ≤ k) : addS S ar z k = S k := by
  unfold addS
  rw [upd_n (by omega), frS_hi hc hk, uC_hi hc (by decide) hk, uC_hi hc (by decide) hk, uC_hi hc (by decide) hk]
theorem zrP_C {S : Sx} {p d x : Nat} (hd : d < 6) (hx : x < 5) : ∀ w, sC (zrP S p w) d x = sC S d x := by
  intro w
  induction w with
  | zero => rfl
  | succ w ih => unfold zrP; rw [gCP hd hx, ih]
theorem zrP_P {S : Sx} {p q x : Nat} (hx : x < 20) : ∀ w, w ≤ 20 → sP (zrP S p w) q x = if q = p ∧ x < w then 0 else sP S q x := by
  intro w
  induction w with
  | zero => intro _; rw [if_neg (by omega)]; rfl
  | succ w ih =>
    intro hw
    unfold zrP
    rw [gPP hx (by omega), ih (by omega)]
    by_cases e : q = p ∧ x = w
    · rw [if_pos e, if_pos (by omega)]
    · rw [if_neg e]
      by_cases e2 : q = p ∧ x < w
      · rw [if_pos e2, if_pos (by omega)]
      · rw [if_neg e2, if_neg (by omega)]
theorem zrP_hi {S : Sx} {p k : Nat} (hp : p < 24) (hk : 517 ≤ k) : ∀ w, w ≤ 20 → zrP S p w k = S k := by
  intro w
  induction w with
  | zero => intro _; rfl
  | succ w ih => intro hw; unfold zrP; rw [uP_hi hp (by omega) hk, ih (by omega)]
theorem com_hi {S : Sx} {o g x t : Int32} {k : Nat} (hp : pn S < 24) (hk : 517 ≤ k) : comS S o g x t k = S k := by
  unfold comS
  rw [upd_n (by omega), uP_hi hp (by decide) hk, uP_hi hp (by decide) hk, uP_hi hp (by decide) hk, uP_hi hp (by decide) hk, uP_hi hp (by decide) hk, uP_hi hp (by decide) hk, zrP_hi hp hk 20 (Nat.le_refl _)]
theorem com_lo {S : Sx} {o g x t : Int32} {k : Nat} (hk : k < 7) (h3 : k ≠ 3) : comS S o g x t k = S k := by
  unfold comS
  rw [upd_n h3, uP_lo (by omega), uP_lo (by omega), uP_lo (by omega), uP_lo (by omega), uP_lo (by omega), uP_lo (by omega), zrP_lo (by omega)]
theorem com_P {S : Sx} {o g y t : Int32} {q x : Nat} (hx : x < 20) : sP (comS S o g y t) q x = if q = pn S then (if x = 0 then o else if x = 1 then g else if x = 2 then y else if x = 3 then t else if x = 5 then o else if x = 6 then -1 else 0) else sP S q x := by
  unfold comS
  rw [gPu (by decide), gPP hx (by decide), gPP hx (by decide), gPP hx (by decide), gPP hx (by decide), gPP hx (by decide), gPP hx (by decide), zrP_P hx 20 (Nat.le_refl _)]
  by_cases e : q = pn S
  · simp only [e, true_and, if_true, if_pos hx]
    by_cases x0 : x = 0
    · subst x0; simp
    by_cases x1 : x = 1
    · subst x1; simp
    by_cases x2 : x = 2
    · subst x2; simp
    by_cases x3 : x = 3
    · subst x3; simp
    by_cases x5 : x = 5
    · subst x5; simp
    by_cases x6 : x = 6
    · subst x6; simp
    simp only [if_neg x0, if_neg x1, if_neg x2, if_neg x3, if_neg x5, if_neg x6]
  · simp only [e, false_and, if_false]
theorem com_C {S : Sx} {o g y t : Int32} {d x : Nat} (hd : d < 6) (hx : x < 5) : sC (comS S o g y t) d x = sC S d x := by
  unfold comS
  rw [gCu (by decide), gCP hd hx, gCP hd hx, gCP hd hx, gCP hd hx, gCP hd hx, gCP hd hx, zrP_C hd hx]
theorem WF_com {b : Nat} {S : Sx} {o g y t : Nat} (h : WF b S) (hp : pn S < 24) (ho : o < 16) (hg : g < 16) (hne : o ≠ g) (hy : 1 ≤ y) (hy2 : y ≤ 999) (ht : t ≤ 1000) : WF b (comS S (nI o) (nI g) (nI y) (nI t)) := by
  obtain ⟨h2, hn, h3, hm, hC, hU, hP⟩ := h
  have f3 : comS S (nI o) (nI g) (nI y) (nI t) 3 = nI (pn S + 1) := by unfold comS; rw [upd_s]; exact nI_suc h3
  have f2 : comS S (nI o) (nI g) (nI y) (nI t) 2 = S 2 := com_lo (by decide) (by decide)
  have e2 : cn (comS S (nI o) (nI g) (nI y) (nI t)) = cn S := cn_eq f2
  have e3 : pn (comS S (nI o) (nI g) (nI y) (nI t)) = pn S + 1 := by unfold pn; rw [f3, n_cl (by unfold pn at hp; omega)]; rfl
  refine ⟨by rw [e2, f2]; exact h2, by rw [e2]; exact hn, by rw [e3]; exact f3, by rw [e3]; omega, fun d hd => ?_, fun d e hd he => ?_, fun p hp => ?_⟩
  · rw [e2] at hd
    have := hC d hd
    unfold WFc at this ⊢
    rw [com_C (by omega) (by decide), com_C (by omega) (by decide), com_C (by omega) (by decide), e3]
    refine ⟨this.1, ?_⟩
    rcases this.2 with z | ⟨p, z1, z2, z3⟩
    · exact Or.inl z
    · refine Or.inr ⟨p, by omega, z2, ?_⟩
      rw [com_P (by decide), if_neg (by omega)]
      exact z3
  · rw [e2] at hd he
    rw [com_C (by omega) (by decide), com_C (by omega) (by decide), com_C (by omega) (by decide), com_C (by omega) (by decide)]
    exact hU d e hd he
  · rw [e3] at hp
    by_cases e : p = pn S
    · unfold WFp
      rw [com_P (by decide), com_P (by decide), com_P (by decide), com_P (by decide), com_P (by decide), com_P (by decide)]
      simp only [if_pos e]
      refine ⟨⟨o, g, ho, hg, hne, rfl, rfl⟩, ⟨y, hy, hy2, rfl⟩, ⟨t, ht, rfl⟩, ⟨0, by decide, rfl⟩, ⟨o, ho, rfl⟩, fun c hc => ⟨0, by omega, ?_⟩⟩
      rw [com_P (by omega), if_pos e, if_neg (by omega), if_neg (by omega), if_neg (by omega), if_neg (by omega), if_neg (by omega), if_neg (by omega)]
      rfl
    · have := hP p (by omega)
      unfold WFp at this ⊢
      rw [com_P (by decide), com_P (by decide), com_P (by decide), com_P (by decide), com_P (by decide), com_P (by decide)]
      simp only [if_neg e]
      refine ⟨this.1, this.2.1, this.2.2.1, this.2.2.2.1, this.2.2.2.2.1, fun c hc => ?_⟩
      rw [com_P (by omega), if_neg e]
      exact this.2.2.2.2.2 c hc
theorem GS_wf {S : Sx} (h : GS S) : ∃ t, t ≤ 2000 ∧ WF (6 * t) S := by
  obtain ⟨t, a, -, b, -⟩ := h
  exact ⟨t, a, b⟩
theorem GS_up {S S' : Sx} (h : GS S) (h0 : S' 0 = S 0) (hw : ∀ b, WF b S → WF b S') (hz : ∀ k, 517 ≤ k → S' k = S k) : GS S' := by
  obtain ⟨t, a1, a2, a3, a4⟩ := h
  exact ⟨t, a1, by rw [h0]; exact a2, hw _ a3, fun k hk => by rw [hz k hk]; exact a4 k hk⟩
end HI
end
section
/-! THE REFERENCE'S METHODS WALKED: the rest, 2 -/
section WR2
def dN (z t : Nat) : Nat := (z % 4 - t % 4) + (t % 4 - z % 4) + ((z / 4 - t / 4) + (t / 4 - z / 4))
theorem dN_le {z t : Nat} (hz : z < 16) (ht : t < 16) : dN z t ≤ 6 := by unfold dN; omega
theorem dN_0 {z t : Nat} (hz : z < 16) (ht : t < 16) (h : dN z t = 0) : z = t := by unfold dN at h; omega
theorem dN_dist : ∀ z, z < 16 → ∀ t, t < 16 → dist (nI z) (nI t) = nI (dN z t) := by decide +kernel
theorem dN_next : ∀ z, z < 16 → ∀ t, t < 16 → z ≠ t → ∃ y, y < 16 ∧ nxz (nI z) (nI t) = nI y ∧ dN y t + 1 = dN z t := by decide +kernel
theorem rchN_stop {S : Sx} {c n : Nat} {t z : Int32} (h : ¬ (z ≠ t ∧ hs (sC S c 0) z = true ∧ hs (sC S c 0) (nxz z t) = true)) : rchN S c t n z = z := by
  cases n with
  | zero => rfl
  | succ n => unfold rchN; rw [if_neg h]
theorem rchN_ok {S : Sx} {c t : Nat} (ht : t < 16) : ∀ n z, z < 16 → ∃ r, r < 16 ∧ rchN S c (nI t) n (nI z) = nI r := by
  intro n
  induction n with
  | zero => intro z hz; exact ⟨z, hz, rfl⟩
  | succ n ih =>
    intro z hz
    unfold rchN
    by_cases h : nI z ≠ nI t ∧ hs (sC S c 0) (nI z) = true ∧ hs (sC S c 0) (nxz (nI z) (nI t)) = true
    · rw [if_pos h]
      obtain ⟨y, hy, e, -⟩ := dN_next z hz t ht (fun e => h.1 (by rw [e]))
      rw [e]; exact ih y hy
    · rw [if_neg h]; exact ⟨z, hz, rfl⟩
theorem rch_ok {S : Sx} {c z t : Nat} (hz : z < 16) (ht : t < 16) : ∃ r, r < 16 ∧ rch S c (nI z) (nI t) = nI r := rchN_ok ht 16 z hz
theorem rlB_ok {S : Sx} {z t : Nat} (hz : z < 16) (ht : t < 16) : ∀ c, ∃ r, r < 16 ∧ rlB S (nI z) (nI t) c = nI r ∧ (r = z ∨ dN r t < dN z t) := by
  intro c
  induction c with
  | zero => exact ⟨z, hz, rfl, Or.inl rfl⟩
  | succ c ih =>
    obtain ⟨r, hr, er, hd⟩ := ih
    obtain ⟨y, hy, ey⟩ := rch_ok (S := S) (c := c) hz ht
    unfold rlB
    rw [er, ey, dN_dist y hy t ht, dN_dist r hr t ht]
    by_cases h : dN y t < dN r t
    · rw [if_pos ((n_lt (by have := dN_le hy ht; omega) (by have := dN_le hr ht; omega)).mpr h)]
      refine ⟨y, hy, rfl, Or.inr ?_⟩
      rcases hd with hd | hd
      · subst hd; exact h
      · omega
    · rw [if_neg (fun e => h ((n_lt (by have := dN_le hy ht; omega) (by have := dN_le hr ht; omega)).mp e))]; exact ⟨r, hr, rfl, hd⟩
set_option maxRecDepth 100000 in
theorem wk_X6_reach (B : Nat) : fw_Wk B fl_X6 (cal_X6_reach B) [] cst_X6 (some .int) kX6_reach 5 (ct_X6_reach B) := by
  intro as M Q QX h
  unfold ct_X6_reach at h
  split at h
  · obtain ⟨rfl, c, i, j, hc, hi, hj, rfl, rfl, rfl, h⟩ := h
    refine ⟨rfl, [(3, [true, true, true, true, true], fun n ls st M' => ∃ z, z < 16 ∧ dN z j ≤ n ∧ rchN (mS B M) c (nI j) n (nI z) = rch (mS B M) c (nI i) (nI j) ∧ ls = [some (.ref (B + 492)), some (.int (nI c)), some (.int (nI i)), some (.int (nI j)), some (.int (nI z))] ∧ st = [] ∧ M' = M)], ⟨10, ?_⟩, ?_⟩
    · exact Exists.intro 16 (Exists.intro i ⟨hi, by have := dN_le hi hj; omega, rfl, rfl, rfl, rfl⟩)
    · intro q hq n ls st M' hi
      cases List.mem_singleton.mp hq
      obtain ⟨z, hz, hd, hr, rfl, rfl, rfl⟩ := hi
      have stop : ¬ (nI z ≠ nI j ∧ hs (sC (mS B M') c 0) (nI z) = true ∧ hs (sC (mS B M') c 0) (nxz (nI z) (nI j)) = true) → Q (some (.int (nI z))) M' := fun e => by
        rw [← hr, rchN_stop e] at h; exact h
      refine ⟨60, And.intro (fun h1 => ?_) (fun h1 => And.intro kd_492 (And.intro rfl (Exists.intro c (And.intro hc (And.intro rfl (And.intro (fun h2 => ?_) (fun h2 => And.intro kd_492 (And.intro rfl (Exists.intro c (And.intro hc (And.intro rfl (And.intro (fun h3 => ?_) (fun h3 => ?_)))))))))))))⟩
      · have h1 : nI z = nI j := h1
        exact stop (fun e => e.1 h1)
      · have h2 := bi_0.mp h2
        exact stop (fun e => by rw [h2] at e; exact absurd e.2.1 (by decide))
      · have h3 := bi_0.mp h3
        exact stop (fun e => by rw [h3] at e; exact absurd e.2.2 (by decide))
      · have h1 : ¬ nI z = nI j := h1
        have h2 := bi_n0.mp h2
        have h3 := bi_n0.mp h3
        obtain ⟨y, hy, ey, ed⟩ := dN_next z hz j hj (fun e => h1 (by rw [e]))
        obtain ⟨n', rfl⟩ : ∃ n', n = n' + 1 := ⟨n - 1, by omega⟩
        refine Exists.intro n' (And.intro (by omega) (Exists.intro y ⟨hy, by omega, ?_, ?_, rfl, rfl⟩))
        · rw [← hr]
          conv => rhs; unfold rchN
          rw [if_pos ⟨h1, h2, h3⟩, ey]
        · show [some (Value.ref (B + 492)), some (Value.int (nI c)), some (Value.int (nI i)), some (Value.int (nI j)), some (Value.int (nxz (nI z) (nI j)))] = _
          rw [ey]
  · exact h.elim
theorem n4s : fw_sd (¬ (4 : Int32) = 0) := fw_sd_i (by decide)
set_option maxRecDepth 100000 in
theorem wk_X6_relays (B : Nat) : fw_Wk B fl_X6 (cal_X6_relays B) [] cst_X6 (some .int) kX6_relays 9 (ct_X6_relays B) := by
  intro as M Q QX h
  unfold ct_X6_relays at h
  split at h
  · obtain ⟨rfl, b, p, hW, hp, rfl, h⟩ := h
    obtain ⟨⟨o, d, ho, hd, -, eo, ed⟩, -⟩ := hW.2.2.2.2.2.2 p hp
    have hn := hW.1
    have hn6 := hW.2.1
    have hm := hW.2.2.2.1
    generalize hN : cn (mS B M) = N at hn hn6
    unfold rel at h
    rw [eo, ed] at h
    have eo' : mS B M (37 + 20 * p + 0) = nI o := eo
    have ed' : mS B M (37 + 20 * p + 1) = nI d := ed
    refine ⟨rfl, [
      (17, [true, true, true, true, true, false, false, false, false], fun m ls st M' => ∃ n z k, m = 100 * n + 99 ∧ z < 16 ∧ dN z d < n ∧ rlN (mS B M) (nI d) n (nI z) k = rlN (mS B M) (nI d) 16 (nI o) 0 ∧ ls = [some (.ref (B + 492)), some (.int (nI p)), some (.int (nI z)), some (.int (nI d)), some (.int k), none, none, none, none] ∧ st = [] ∧ M' = M),
      (28, [true, true, true, true, true, true, true, false, false], fun m ls st M' => ∃ n z k c, m = 100 * n + 150 + (N - c) ∧ c ≤ N ∧ z < 16 ∧ z ≠ d ∧ dN z d ≤ n ∧ rlN (mS B M) (nI d) (n + 1) (nI z) k = rlN (mS B M) (nI d) 16 (nI o) 0 ∧ ls = [some (.ref (B + 492)), some (.int (nI p)), some (.int (nI z)), some (.int (nI d)), some (.int k), some (.int (rlB (mS B M) (nI z) (nI d) c)), some (.int (nI c)), none, none] ∧ st = [] ∧ M' = M)], ⟨40, ?_⟩, ?_⟩
    · refine And.intro kd_492 (And.intro rfl (And.intro (vP0 (by omega)) (And.intro kd_492 (And.intro rfl (And.intro (vP1 (by omega)) ?_)))))
      refine Exists.intro 1699 (Exists.intro 16 (Exists.intro o (Exists.intro 0 ⟨rfl, ho, by have := dN_le ho hd; omega, rfl, ?_, rfl, rfl⟩)))
      show [some (Value.ref (B + 492)), some (Value.int (nI p)), some (Value.int (mS B M ((37 : Int32) + 20 * nI p + 0).toNatClampNeg)), some (Value.int (mS B M ((37 : Int32) + 20 * nI p + 1).toNatClampNeg)), some (Value.int 0), none, none, none, none] = _
      rw [px0, px1, n_cl (by omega), n_cl (by omega), eo', ed']
    · intro q hq m ls st M' hi
      simp only [List.mem_cons, List.not_mem_nil, or_false] at hq
      rcases hq with rfl | rfl
      · obtain ⟨n, z, k, rfl, hz, hdn, hr, rfl, rfl, rfl⟩ := hi
        refine ⟨40, And.intro (fun h1 => ?_) (fun h1 => ?_)⟩
        · have h1 : nI z = nI d := h1
          rw [← hr] at h
          cases n with
          | zero => omega
          | succ n =>
            unfold rlN at h
            rw [if_pos h1] at h
            exact h
        · have h1 : ¬ nI z = nI d := h1
          obtain ⟨y, hy, ey, eyd⟩ := dN_next z hz d hd (fun e => h1 (by rw [e]))
          obtain ⟨n', rfl⟩ : ∃ n', n = n' + 1 := ⟨n - 1, by omega⟩
          exact Exists.intro (100 * n' + 150 + (N - 0)) (And.intro (by omega) (Exists.intro n' (Exists.intro z (Exists.intro k (Exists.intro 0 ⟨rfl, by omega, hz, fun e => h1 (by rw [e]), by omega, hr, rfl, rfl, rfl⟩)))))
      · obtain ⟨n, z, k, c, rfl, hc, hz, hzd, hdn, hr, rfl, rfl, rfl⟩ := hi
        refine ⟨120, And.intro kd_492 (And.intro kd_493 (And.intro (vn_493 (i := 2) (by decide)) (And.intro (fun h1 => ?_) (fun h1 => ?_))))⟩
        · have h1 : mS B M' 2 ≤ nI c := h1
          rw [hn, n_ge (by omega) (by omega)] at h1
          have ec : c = N := by omega
          subst ec
          obtain ⟨r, hr16, er, erd⟩ := rlB_ok (S := mS B M') hz hd c
          rw [← hr] at h
          unfold rlN at h
          rw [if_neg (by rw [nI_eq (by omega) (by omega)]; exact hzd), hN] at h
          refine And.intro (fun h2 => ?_) (fun h2 => ?_)
          · have h2 : ¬ rlB (mS B M') (nI z) (nI d) c = nI z := h2
            rw [if_neg h2] at h
            rw [er] at h h2
            have h2 : ¬ r = z := fun e => h2 (by rw [e])
            rcases erd with erd | erd
            · exact absurd erd h2
            refine Exists.intro (100 * n + 99) (And.intro (by omega) (Exists.intro n (Exists.intro r (Exists.intro (k + 1) ⟨rfl, hr16, by omega, ?_, ?_, rfl, rfl⟩))))
            · rw [← hr]
              conv => rhs; unfold rlN
              rw [if_neg (by rw [nI_eq (by omega) (by omega)]; exact hzd), hN, er, if_neg (by rw [nI_eq (by omega) (by omega)]; exact h2)]
            · show [some (Value.ref (B + 492)), some (Value.int (nI p)), some (Value.int (rlB (mS B M') (nI z) (nI d) c)), some (Value.int (nI d)), some (Value.int (k + 1)), none, none, none, none] = _
              rw [er]
          · have h2 : rlB (mS B M') (nI z) (nI d) c = nI z := h2
            rw [if_pos h2] at h
            exact h
        · have h1 : ¬ mS B M' 2 ≤ nI c := h1
          rw [hn, n_ge (by omega) (by omega)] at h1
          have key : ∀ x, rlB (mS B M') (nI z) (nI d) (c + 1) = x → ∀ u v, u = none → v = none → ∃ m', m' < 100 * n + 150 + (N - c) ∧ ∃ n' z' k' c', m' = 100 * n' + 150 + (N - c') ∧ c' ≤ N ∧ z' < 16 ∧ z' ≠ d ∧ dN z' d ≤ n' ∧ rlN (mS B M') (nI d) (n' + 1) (nI z') k' = rlN (mS B M') (nI d) 16 (nI o) 0 ∧ [some (Value.ref (B + 492)), some (Value.int (nI p)), some (Value.int (nI z)), some (Value.int (nI d)), some (Value.int k), some (Value.int x), some (Value.int (nI c + 1)), u, v] = [some (.ref (B + 492)), some (.int (nI p)), some (.int (nI z')), some (.int (nI d)), some (.int k'), some (.int (rlB (mS B M') (nI z') (nI d) c')), some (.int (nI c')), none, none] ∧ ([] : List Value) = [] ∧ M' = M' := by
            rintro x hx u v rfl rfl
            exact ⟨100 * n + 150 + (N - (c + 1)), by omega, n, z, k, c + 1, rfl, by omega, hz, hzd, hdn, hr, by rw [hx, nI_1], rfl, rfl⟩
          refine And.intro kd_492 (And.intro rfl (Exists.intro c (Exists.intro z (Exists.intro d (And.intro (by omega) (And.intro hz (And.intro hd (And.intro rfl (And.intro rfl (And.intro rfl ?_))))))))))
          refine And.intro n4s (And.intro n4s (And.intro n4s (And.intro n4s (And.intro n4s (And.intro n4s (And.intro n4s (And.intro n4s (And.intro (fun h2 => ?_) (fun h2 => ?_)))))))))
          · have h2 : dist (rlB (mS B M') (nI z) (nI d) c) (nI d) ≤ dist (rch (mS B M') c (nI z) (nI d)) (nI d) := h2
            refine And.intro (fun _ => key (rlB (mS B M') (nI z) (nI d) c) ?_ none none rfl rfl) (fun h3 => absurd rfl h3)
            conv => lhs; unfold rlB
            rw [if_neg (Int32.not_lt.mpr h2)]
          · have h2 : ¬ dist (rlB (mS B M') (nI z) (nI d) c) (nI d) ≤ dist (rch (mS B M') c (nI z) (nI d)) (nI d) := h2
            refine And.intro (fun h3 => absurd (show (1 : Int32) = 0 from h3) (by decide)) (fun _ => key (rch (mS B M') c (nI z) (nI d)) ?_ none none rfl rfl)
            conv => lhs; unfold rlB
            rw [if_pos (Int32.not_le.mp h2)]
  · exact h.elim
set_option maxRecDepth 100000 in
theorem wk_X6_more (B : Nat) : fw_Wk B fl_X6 (cal_X6_more B) [] cst_X6 (some .int) kX6_more 4 (ct_X6_more B) := by
  intro as M Q QX h
  unfold ct_X6_more at h
  split at h
  · obtain ⟨rfl, t, n, S0, ht, rfl, hW, hk, hz, h⟩ := h
    refine ⟨rfl, [], ⟨60, ?_⟩, nofun⟩
    refine And.intro kd_492 (And.intro kd_493 (And.intro (vn_493 (i := 6) (by decide)) (And.intro kd_492 (And.intro rfl (Exists.intro t (Exists.intro n (And.intro ht (And.intro rfl (And.intro hW ?_)))))))))
    refine And.intro kd_492 (And.intro kd_493 (And.intro (vn_493 (i := 6) (by decide)) (And.intro kd_492 (And.intro kd_492 (And.intro kd_493 (And.intro kd_496 (And.intro ln_493 (And.intro ln_496 (And.intro ?_ ?_)))))))))
    · show B + 493 ≠ B + 496
      omega
    · show Q (some (.int (mS B (mK B M (tkN (mS B M) n)) 6 - mS B M 6))) (fw_row (mK B M (tkN (mS B M) n)) (B + 493) (cpN 517 ((mK B M (tkN (mS B M) n)).1 (B + 496)) (mS B (mK B M (tkN (mS B M) n)))))
      rw [mS_K, row_row, row_n (by omega)]
      have e : cpN 517 (M.1 (B + 496)) (tkN (mS B M) n) = S0 := by
        funext k
        unfold cpN
        by_cases g : k < 517
        · rw [if_pos g]; exact hk k g
        · rw [if_neg g, tkN_hi hW (by omega), (hz k (by omega)).1, (hz k (by omega)).2]
      rw [e]
      exact h
  · exact h.elim
set_option maxRecDepth 100000 in
theorem wk_X6_paidBy (B : Nat) : fw_Wk B fl_X6 (cal_X6_paidBy B) [] cst_X6 (some .int) kX6_paidBy 2 (ct_X6_paidBy B) := by
  intro as M Q QX h
  unfold ct_X6_paidBy at h
  split at h
  · obtain ⟨rfl, t, n, ht, rfl, hW, hz, h⟩ := h
    refine ⟨rfl, [], ⟨60, ?_⟩, nofun⟩
    refine And.intro kd_492 (And.intro kd_492 (And.intro kd_496 (And.intro kd_493 (And.intro ln_496 (And.intro ln_493 (And.intro ?_ ?_))))))
    · show B + 496 ≠ B + 493
      omega
    · have e1 : mS B (fw_row M (B + 496) (cpN 517 (M.1 (B + 493)) (M.1 (B + 496)))) = mS B M := row_n (by omega)
      refine And.intro kd_492 (And.intro rfl (Exists.intro t (Exists.intro n (Exists.intro (mS B M) (And.intro ht (And.intro rfl (And.intro (by rw [e1]; exact hW) (And.intro (fun k hk => ?_) (And.intro (fun k hk => by rw [e1]; exact ⟨hz k hk, hz k hk⟩) ?_)))))))))
      · show (fw_row M (B + 496) (cpN 517 (M.1 (B + 493)) (M.1 (B + 496)))).1 (B + 496) k = _
        rw [row_1]; unfold cpN; rw [if_pos hk]
      · show Q (some (.int (payN (mS B (fw_row M (B + 496) (cpN 517 (M.1 (B + 493)) (M.1 (B + 496))))) n))) (mK B (fw_row M (B + 496) (cpN 517 (M.1 (B + 493)) (M.1 (B + 496)))) (mS B M))
        rw [e1]
        refine h _ mS_K (fun k hk => ?_) (fun Z hZ => ?_) (Fr_tr (Fr_row (by decide) (by decide)) Fr_K)
        · rw [row_n (by omega), row_1]; unfold cpN; rw [if_pos hk]
        · have := RM_K (S := Z.1) (RM_row (f := cpN 517 (M.1 (B + 493)) (M.1 (B + 496))) hZ (Or.inr rfl))
          rw [show mS B M = Z.1 from hZ.1]
          exact this
  · exact h.elim
set_option maxRecDepth 100000 in
theorem wk_X6_isDone (B : Nat) : fw_Wk B fl_X6 (cal_X6_isDone B) [] cst_X6 (some .boolean) kX6_isDone 1 (ct_X6_isDone B) := by
  intro as M Q QX h
  unfold ct_X6_isDone at h
  split at h
  · obtain ⟨rfl, hm, hm24, h⟩ := h
    refine ⟨rfl, [], ⟨60, ?_⟩, nofun⟩
    refine And.intro kd_492 (And.intro rfl (And.intro hm (And.intro hm24 (And.intro kd_492 (And.intro rfl (And.intro hm (And.intro hm24 (And.intro (fun h1 => ?_) (fun h1 => ?_)))))))))
    · have h1 : ¬ inSt (mS B M) 0 (pn (mS B M)) + inSt (mS B M) 1 (pn (mS B M)) = 0 := h1
      unfold dnB at h
      rw [decide_eq_false h1] at h
      exact And.intro (Or.inl rfl) h
    · have h1 : inSt (mS B M) 0 (pn (mS B M)) + inSt (mS B M) 1 (pn (mS B M)) = 0 := h1
      unfold dnB at h
      rw [decide_eq_true h1] at h
      exact And.intro (Or.inr rfl) h
  · exact h.elim
end WR2
end
section
/-! THE REFERENCE'S METHODS WALKED: the face -/
section WR3
theorem ok_n {x : Int32} {a b : Nat} (ha : a ≤ b) (hb : b < 2 ^ 31) (h : okN x (nI a) (nI b) = true) : ∃ k, a ≤ k ∧ k ≤ b ∧ x = nI k ∧ x.toNatClampNeg = k := by
  unfold okN at h
  simp only [Bool.and_eq_true, decide_eq_true_eq] at h
  obtain ⟨h1, h2⟩ := h
  have h0 : (0 : Int32) ≤ x := by
    rw [Int32.le_iff_toInt_le] at h1 ⊢
    rw [nI_toInt (by omega)] at h1
    have : (0 : Int32).toInt = 0 := by decide
    omega
  obtain ⟨k, hl, rfl⟩ := nI_of (Int32.not_lt.mpr h0)
  rw [n_ge (by omega) hl] at h1
  rw [n_ge hl hb] at h2
  exact ⟨k, h1, h2, rfl, n_cl hl⟩
theorem ok_m {x : Int32} {n : Nat} (hn : n < 2 ^ 31) (h : okN x 0 (nI n - 1) = true) : ∃ k, k < n ∧ x = nI k ∧ x.toNatClampNeg = k := by
  cases n with
  | zero =>
    exfalso
    unfold okN at h
    simp only [Bool.and_eq_true, decide_eq_true_eq] at h
    exact absurd (Int32.le_trans h.1 h.2) (by decide)
  | succ n =>
    have e : nI (n + 1) - 1 = nI n := by rw [show (1 : Int32) = nI 1 from rfl, pk_sub (by omega), Nat.add_sub_cancel]
    rw [e] at h
    obtain ⟨k, -, h2, h3, h4⟩ := ok_n (a := 0) (by omega) (by omega) h
    exact ⟨k, by omega, h3, h4⟩
theorem isCr_n {b : Nat} {S : Sx} {c : Int32} (h : WF b S) (hc : isCr S c = true) : ∃ k, k < cn S ∧ c = nI k ∧ c.toNatClampNeg = k := by
  have hn := h.2.1
  unfold isCr at hc
  rw [h.1] at hc
  exact ok_m (by omega) hc
theorem isPc_n {b : Nat} {S : Sx} {p : Int32} (h : WF b S) (hp : isPc S p = true) : ∃ k, k < pn S ∧ p = nI k ∧ p.toNatClampNeg = k := by
  have hn := h.2.2.2.1
  unfold isPc at hp
  rw [h.2.2.1] at hp
  exact ok_m (by omega) hp
theorem ctM_no {B k : Nat} {op : Op} {Z : Zs} {M : fw_M} {Q : Option Value → fw_M → Prop} {v : Int32} (e : op Z = (k, 0, Z)) (hv : v = nI k) (hR : RM B M Z)
    (h : ∀ r M', ((op Z).1 = 0 → r = (op Z).2.1) → RM B M' (op Z).2.2 → M'.1 (B + 492) 7 = nI (op Z).1 → Fr B M M' → Q (some (.int r)) M') : Q (some (.int 0)) (fw_st M (B + 492) 7 v) := by
  rw [e] at h
  exact h 0 _ (fun _ => rfl) (RM_st hR ⟨by decide, by decide⟩) (by rw [st_s]; exact hv) Fr_st
theorem ctM_yes {B : Nat} {op : Op} {Z Z' : Zs} {M M1 : fw_M} {Q : Option Value → fw_M → Prop} {r : Int32} (e : op Z = (0, r, Z')) (hR : RM B M1 Z') (hF : Fr B M M1)
    (h : ∀ r M', ((op Z).1 = 0 → r = (op Z).2.1) → RM B M' (op Z).2.2 → M'.1 (B + 492) 7 = nI (op Z).1 → Fr B M M' → Q (some (.int r)) M') : Q (some (.int r)) (fw_st M1 (B + 492) 7 0) := by
  rw [e] at h
  exact h r _ (fun _ => rfl) (RM_st hR ⟨by decide, by decide⟩) (by rw [st_s]; rfl) (Fr_tr hF Fr_st)
/-- after hold and changes of the row: the end of a call that acts -/
theorem ctM_end {B : Nat} {op : Op} {n tl : Nat} {S S' : Sx} {H : Nat → Sx} {tx : Nat → Int32} {M : fw_M} {Q : Option Value → fw_M → Prop} {QX} {r r' : Int32} {M1 : fw_M}
    (e : op (S, n, H, tl, tx) = (0, r, phZ (S, n, H, tl, tx) S')) (hR : RM B M (S, n, H, tl, tx))
    (er : r' = r) (e1 : M1 = mK B (fw_row M (B + 495) (cpN 517 S (M.1 (B + 495)))) S')
    (h : ∀ r M', ((op (S, n, H, tl, tx)).1 = 0 → r = (op (S, n, H, tl, tx)).2.1) → RM B M' (op (S, n, H, tl, tx)).2.2 → M'.1 (B + 492) 7 = nI (op (S, n, H, tl, tx)).1 → Fr B M M' → Q (some (.int r)) M') :
    ct_X6_ends B [.ref (B + 492), .int r'] M1 Q QX := by
  subst e1; subst er
  rw [e] at h
  have h1 := RM_K (S := S') (RM_row (f := cpN 517 S (M.1 (B + 495))) hR (Or.inl rfl))
  refine ⟨rfl, (S', n, H, tl, tx), S, h1, fun k hk => ?_, fun M' a1 a2 a3 => h r' M' (fun _ => rfl) a1 a2 (Fr_tr (Fr_tr (Fr_row (by decide) (by decide)) Fr_K) a3)⟩
  rw [row_n (by omega), row_1]
  unfold cpN
  rw [if_pos hk]
theorem hold_i {B : Nat} {M : fw_M} {Q : Option Value → fw_M → Prop} {QX} (h : Q none (fw_row M (B + 495) (cpN 517 (mS B M) (M.1 (B + 495))))) : ct_X6_hold B [.ref (B + 492)] M Q QX := ⟨rfl, h⟩
set_option maxRecDepth 100000 in
theorem wk_X6_setGrace (B : Nat) : fw_Wk B fl_X6 (cal_X6_setGrace B) [] cst_X6 (some .int) kX6_setGrace 3 (ct_X6_setGrace B) := by
  intro as M Q QX h
  unfold ct_X6_setGrace at h
  split at h
  · rename_i a x
    obtain ⟨rfl, ⟨S, n, H, tl, tx⟩, hR, hG, h⟩ := h
    have eS : mS B M = S := hR.1
    subst eS
    obtain ⟨t, ht, hW⟩ := GS_wf hG.1
    have hW : WF (6 * t) (mS B M) := hW
    have hn : mS B M 2 = nI (cn (mS B M)) := hW.1
    have hn6 : cn (mS B M) ≤ 6 := hW.2.1
    have hm : mS B M 3 = nI (pn (mS B M)) := hW.2.2.1
    have hm24 : pn (mS B M) ≤ 24 := hW.2.2.2.1
    refine ⟨rfl, [], ⟨80, And.intro (fun h1 => ?_) (fun h1 => ?_)⟩, nofun⟩
    · have h1 : okN x 0 100 = true := bi_n0.mp h1
      have e : opGrace x (mS B M, n, H, tl, tx) = (0, mS B M 1, phZ (mS B M, n, H, tl, tx) (upd (mS B M) 1 x)) := by unfold opGrace; rw [if_pos h1]
      refine And.intro kd_492 (And.intro rfl (And.intro kd_492 (And.intro kd_493 (And.intro (vn_493 (i := 1) (by decide)) (And.intro kd_492 (And.intro kd_493 (And.intro (vn_493 (i := 1) (by decide)) (And.intro kd_492 ?_))))))))
      refine ctM_end (QX := QX) e hR ?_ ?_ h
      · simp (disch := omega) only [cx0, cx1, cx2, cx3, cx4, px0, px1, px2, px3, px4, px5, px6, px7, pxL, pxS, n_cl, cl0, cl1, cl2, cl3, cl4, cl5, cl6, b493, b494, b495, b496, b497, row_1, row_row, st_row, upd_s, upd_n, row_n]
      · simp (disch := omega) only [cx0, cx1, cx2, cx3, cx4, px0, px1, px2, px3, px4, px5, px6, px7, pxL, pxS, n_cl, cl0, cl1, cl2, cl3, cl4, cl5, cl6, b493, b494, b495, b496, b497, row_1, row_row, st_row, upd_s, upd_n, mS_K, mK_K, row_n]
    · have h1 : okN x 0 100 = false := bi_0.mp h1
      exact And.intro kd_492 (And.intro rfl (ctM_no (by unfold opGrace; rw [if_neg (by rw [h1]; decide)]) rfl hR h))
  · exact h.elim
set_option maxRecDepth 100000 in
theorem wk_X6_setArea (B : Nat) : fw_Wk B fl_X6 (cal_X6_setArea B) [] cst_X6 (some .int) kX6_setArea 4 (ct_X6_setArea B) := by
  intro as M Q QX h
  unfold ct_X6_setArea at h
  split at h
  · rename_i a x y
    obtain ⟨rfl, ⟨S, n, H, tl, tx⟩, hR, hG, h⟩ := h
    have eS : mS B M = S := hR.1
    subst eS
    obtain ⟨t, ht, hW⟩ := GS_wf hG.1
    have hW : WF (6 * t) (mS B M) := hW
    have hn : mS B M 2 = nI (cn (mS B M)) := hW.1
    have hn6 : cn (mS B M) ≤ 6 := hW.2.1
    have hm : mS B M 3 = nI (pn (mS B M)) := hW.2.2.1
    have hm24 : pn (mS B M) ≤ 24 := hW.2.2.2.1
    refine ⟨rfl, [], ⟨80, And.intro kd_492 (And.intro rfl (And.intro (fun h1 => ?_) (fun h1 => ?_)))⟩, nofun⟩
    · have h1 : isCr (mS B M) x = true := bi_n0.mp h1
      obtain ⟨c, hc, rfl, ec⟩ := isCr_n hW h1
      refine And.intro (fun h2 => ?_) (fun h2 => ?_)
      · have h2 : okN y 0 65535 = true := bi_n0.mp h2
        have e : opArea (nI c) y (mS B M, n, H, tl, tx) = (0, sC (mS B M) c 0, phZ (mS B M, n, H, tl, tx) (uC (mS B M) c 0 y)) := by unfold opArea; rw [if_pos h1, if_pos h2, ec]
        refine And.intro kd_492 (And.intro rfl (And.intro kd_492 (And.intro rfl (And.intro (vC0 (by omega)) (And.intro kd_492 (And.intro rfl (And.intro (vC0 (by omega)) (And.intro kd_492 ?_))))))))
        refine ctM_end (QX := QX) e hR ?_ ?_ h
        · simp (disch := omega) only [cx0, cx1, cx2, cx3, cx4, px0, px1, px2, px3, px4, px5, px6, px7, pxL, pxS, n_cl, cl0, cl1, cl2, cl3, cl4, cl5, cl6, b493, b494, b495, b496, b497, row_1, row_row, st_row, upd_s, upd_n, mS_K, mK_K, row_n]
          rfl
        · simp (disch := omega) only [cx0, cx1, cx2, cx3, cx4, px0, px1, px2, px3, px4, px5, px6, px7, pxL, pxS, n_cl, cl0, cl1, cl2, cl3, cl4, cl5, cl6, b493, b494, b495, b496, b497, row_1, row_row, st_row, upd_s, upd_n, mS_K, mK_K, row_n]
          rfl
      · have h2 : okN y 0 65535 = false := bi_0.mp h2
        exact And.intro kd_492 (And.intro rfl (ctM_no (by unfold opArea; rw [if_pos h1, if_neg (by rw [h2]; decide)]) rfl hR h))
    · have h1 : isCr (mS B M) x = false := bi_0.mp h1
      exact And.intro kd_492 (And.intro rfl (ctM_no (by unfold opArea; rw [if_neg (by rw [show isCr (mS B M, n, H, tl, tx).1 x = false from h1]; decide)]) rfl hR h))
  · exact h.elim
set_option maxRecDepth 100000 in
theorem wk_X6_addCourier (B : Nat) : fw_Wk B fl_X6 (cal_X6_addCourier B) [] cst_X6 (some .int) kX6_addCourier 4 (ct_X6_addCourier B) := by
  intro as M Q QX h
  unfold ct_X6_addCourier at h
  split at h
  · rename_i a x y
    obtain ⟨rfl, ⟨S, n, H, tl, tx⟩, hR, hG, h⟩ := h
    have eS : mS B M = S := hR.1
    subst eS
    obtain ⟨t, ht, hW⟩ := GS_wf hG.1
    have hW : WF (6 * t) (mS B M) := hW
    have hn : mS B M 2 = nI (cn (mS B M)) := hW.1
    have hn6 : cn (mS B M) ≤ 6 := hW.2.1
    have hm : mS B M 3 = nI (pn (mS B M)) := hW.2.2.1
    have hm24 : pn (mS B M) ≤ 24 := hW.2.2.2.1
    have bad : ¬ (okN x 0 65535 && okN y 0 15) = true → Q (some (.int 0)) (fw_st M (B + 492) 7 1) := fun e => ctM_no (by unfold opAdd; rw [if_neg e]) rfl hR h
    refine ⟨rfl, [], ⟨120, And.intro (fun h1 => ?_) (fun h1 => And.intro (fun h2 => ?_) (fun h2 => ?_))⟩, nofun⟩
    · have h1 : okN x 0 65535 = false := bi_0.mp h1
      exact And.intro kd_492 (And.intro rfl (bad (by simp [h1])))
    · have h1 : okN x 0 65535 = true := bi_n0.mp h1
      have h2 : okN y 0 15 = true := bi_n0.mp h2
      have h12 : (okN x 0 65535 && okN y 0 15) = true := by rw [h1, h2]; rfl
      obtain ⟨z, -, hz, rfl, -⟩ := ok_n (a := 0) (b := 15) (by decide) (by decide) h2
      refine And.intro kd_492 (And.intro kd_493 (And.intro (vn_493 (i := 2) (by decide)) (And.intro (fun h3 => ?_) (fun h3 => ?_))))
      · have h3 : ¬ mS B M 2 = 6 := h3
        have e : opAdd x (nI z) (mS B M, n, H, tl, tx) = (0, mS B M 2, phZ (mS B M, n, H, tl, tx) (addS (mS B M) x (nI z))) := by unfold opAdd; rw [if_pos h12, if_neg h3]
        have hc : cn (mS B M) < 6 := by
          rcases Nat.lt_or_ge (cn (mS B M)) 6 with z | z
          · exact z
          · exact absurd (by rw [hn, show cn (mS B M) = 6 by omega]; rfl) h3
        have eN : nI (cn (mS B M)) = mS B M 2 := hn.symm
        refine And.intro kd_492 (And.intro rfl (And.intro kd_492 (And.intro kd_493 (And.intro (vn_493 (i := 2) (by decide)) ?_))))
        have e1 : mS B (fw_row M (B + 495) (cpN 517 (mS B M) (M.1 (B + 495)))) = mS B M := row_n (by omega)
        have e2 : (fw_row M (B + 495) (cpN 517 (mS B M) (M.1 (B + 495)))).1 (B + 492 + 1) ((2 : Int32)).toNatClampNeg = nI (cn (mS B M)) := by rw [← hn]; exact congrFun e1 2
        refine And.intro kd_492 (And.intro rfl (And.intro ?_ (And.intro kd_492 (And.intro rfl (And.intro ?_ (And.intro kd_492 (And.intro rfl (And.intro ?_ (And.intro kd_492 (And.intro rfl (Exists.intro (cn (mS B M)) (And.intro hc (And.intro e2 ?_)))))))))))))
        · show fw_sd (vp_in ((7 : Int32) + 5 * (fw_row M (B + 495) (cpN 517 (mS B M) (M.1 (B + 495)))).1 (B + 492 + 1) ((2 : Int32)).toNatClampNeg + 0) 517)
          rw [e2]; exact vC0 hc
        · show fw_sd (vp_in ((7 : Int32) + 5 * (fw_row M (B + 495) (cpN 517 (mS B M) (M.1 (B + 495)))).1 (B + 492 + 1) ((2 : Int32)).toNatClampNeg + 1) 517)
          rw [e2]; exact vC1 hc
        · show fw_sd (vp_in ((7 : Int32) + 5 * (fw_row M (B + 495) (cpN 517 (mS B M) (M.1 (B + 495)))).1 (B + 492 + 1) ((2 : Int32)).toNatClampNeg + 2) 517)
          rw [e2]; exact vC2 hc
        refine And.intro kd_492 (And.intro kd_493 (And.intro (vn_493 (i := 2) (by decide)) (And.intro kd_493 (And.intro (vn_493 (i := 2) (by decide)) (And.intro kd_492 ?_)))))
        refine ctM_end (QX := QX) e hR ?_ ?_ h
        · exact e2.trans hn.symm
        · have e3 : ∀ w, mS B (fw_row M (B + 495) (cpN 517 (mS B M) (M.1 (B + 495)))) w = mS B M w := fun w => congrFun e1 w
          simp (disch := omega) only [cx0, cx1, cx2, cx3, cx4, px0, px1, px2, px3, px4, px5, px6, px7, pxL, pxS, n_cl, cl0, cl1, cl2, cl3, cl4, cl5, cl6, b493, b494, b495, b496, b497, row_1, row_row, st_row, upd_s, upd_n, mS_K, mK_K, row_n, e2, hn]
          unfold addS
          refine congrArg (fun f => fw_row (fw_row M (B + 495) (cpN 517 (mS B M) (M.1 (B + 495)))) (B + 493) (upd _ 2 f)) ?_
          rw [frS_lo (by decide), upd_n (by omega), upd_n (by omega), upd_n (by omega)]
      · have h3 : mS B M 2 = 6 := h3
        exact And.intro kd_492 (And.intro rfl (ctM_no (by unfold opAdd; rw [if_pos h12, if_pos h3]) rfl hR h))
    · have h2 : okN y 0 15 = false := bi_0.mp h2
      exact And.intro kd_492 (And.intro rfl (bad (by simp [h2])))
  · exact h.elim
set_option maxRecDepth 100000 in
theorem wk_X6_drop (B : Nat) : fw_Wk B fl_X6 (cal_X6_drop B) [] cst_X6 (some .int) kX6_drop 2 (ct_X6_drop B) := by
  intro as M Q QX h
  unfold ct_X6_drop at h
  split at h
  · rename_i a x
    obtain ⟨rfl, ⟨S, n, H, tl, tx⟩, hR, hG, h⟩ := h
    have eS : mS B M = S := hR.1
    subst eS
    obtain ⟨t, ht, hW⟩ := GS_wf hG.1
    have hW : WF (6 * t) (mS B M) := hW
    have hn : mS B M 2 = nI (cn (mS B M)) := hW.1
    have hn6 : cn (mS B M) ≤ 6 := hW.2.1
    have hm : mS B M 3 = nI (pn (mS B M)) := hW.2.2.1
    have hm24 : pn (mS B M) ≤ 24 := hW.2.2.2.1
    refine ⟨rfl, [], ⟨80, And.intro kd_492 (And.intro rfl (And.intro (fun h1 => ?_) (fun h1 => ?_)))⟩, nofun⟩
    · have h1 : isCr (mS B M) x = true := bi_n0.mp h1
      obtain ⟨c, hc, rfl, ec⟩ := isCr_n hW h1
      have e : opDrop (nI c) (mS B M, n, H, tl, tx) = (0, sC (mS B M) c 4, phZ (mS B M, n, H, tl, tx) (drS (mS B M) c)) := by unfold opDrop; rw [if_pos h1, ec]
      have e1 : mS B (fw_row M (B + 495) (cpN 517 (mS B M) (M.1 (B + 495)))) = mS B M := row_n (by omega)
      refine And.intro kd_492 (And.intro rfl (And.intro kd_492 (And.intro rfl (Exists.intro (6 * t) (Exists.intro c (And.intro (by rw [e1]; exact hW) (And.intro (by rw [e1]; exact hc) (And.intro rfl (And.intro kd_492 ?_)))))))))
      refine ctM_end (QX := QX) e hR ?_ ?_ h
      · rw [e1]
      · rw [e1]
    · have h1 : isCr (mS B M) x = false := bi_0.mp h1
      exact And.intro kd_492 (And.intro rfl (ctM_no (by unfold opDrop; rw [if_neg (by rw [show isCr (mS B M, n, H, tl, tx).1 x = false from h1]; decide)]) rfl hR h))
  · exact h.elim
set_option maxRecDepth 100000 in
theorem wk_X6_run (B : Nat) : fw_Wk B fl_X6 (cal_X6_run B) [] cst_X6 (some .int) kX6_run 3 (ct_X6_run B) := by
  intro as M Q QX h
  unfold ct_X6_run at h
  split at h
  · rename_i a x
    obtain ⟨rfl, ⟨S, n, H, tl, tx⟩, hR, hG, h⟩ := h
    have eS : mS B M = S := hR.1
    subst eS
    obtain ⟨t, ht, hW⟩ := GS_wf hG.1
    have hW : WF (6 * t) (mS B M) := hW
    have hn : mS B M 2 = nI (cn (mS B M)) := hW.1
    have hn6 : cn (mS B M) ≤ 6 := hW.2.1
    have hm : mS B M 3 = nI (pn (mS B M)) := hW.2.2.1
    have hm24 : pn (mS B M) ≤ 24 := hW.2.2.2.1
    obtain ⟨t0, ht0, h0, hW0, hz0⟩ := hG.1
    have h0 : mS B M 0 = nI t0 := h0
    refine ⟨rfl, [], ⟨120, And.intro (fun h1 => ?_) (fun h1 => ?_)⟩, nofun⟩
    · have h1 : okN x 0 200 = true := bi_n0.mp h1
      obtain ⟨k, -, hk, rfl, ek⟩ := ok_n (a := 0) (b := 200) (by decide) (by decide) h1
      refine And.intro kd_492 (And.intro kd_493 (And.intro (vn_493 (i := 0) (by decide)) (And.intro (fun h2 => ?_) (fun h2 => ?_))))
      · have h2 : mS B M 0 + nI k ≤ 2000 := h2
        have e : opRun (nI k) (mS B M, n, H, tl, tx) = (0, inSt (tkN (mS B M) k) 2 (pn (mS B M)) - inSt (mS B M) 2 (pn (mS B M)), phZ (mS B M, n, H, tl, tx) (tkN (mS B M) k)) := by unfold opRun; rw [if_pos h1, if_neg (Int32.not_lt.mpr h2), ek]
        have e1 : mS B (fw_row M (B + 495) (cpN 517 (mS B M) (M.1 (B + 495)))) = mS B M := row_n (by omega)
        have e3 : tkN (mS B M) k 3 = mS B M 3 := tkN_lo (by decide) (by decide) k
        have ep : pn (tkN (mS B M) k) = pn (mS B M) := pn_eq e3
        refine And.intro kd_492 (And.intro rfl (And.intro kd_492 (And.intro rfl (And.intro (by rw [e1]; exact hm) (And.intro (by rw [e1]; exact hm24) (And.intro kd_492 (And.intro rfl ?_)))))))
        refine Exists.intro (6 * t0) (Exists.intro k (And.intro (by omega) (And.intro rfl (And.intro (by rw [e1]; exact hW0) ?_))))
        refine And.intro kd_492 (And.intro rfl (And.intro ?_ (And.intro ?_ (And.intro kd_492 ?_))))
        · rw [mS_K, e1, ep, e3]; exact hm
        · rw [mS_K, e1, ep]; exact hm24
        refine ctM_end (QX := QX) e hR ?_ ?_ h
        · show inSt (mS B (mK B _ _)) 2 (pn (mS B (mK B _ _))) - inSt (mS B _) 2 (pn (mS B _)) = _
          rw [mS_K, e1, ep]
        · rw [e1]
      · have h2 : ¬ mS B M 0 + nI k ≤ 2000 := h2
        exact And.intro kd_492 (And.intro rfl (ctM_no (by unfold opRun; rw [if_pos h1, if_pos (Int32.not_le.mp h2)]) rfl hR h))
    · have h1 : okN x 0 200 = false := bi_0.mp h1
      exact And.intro kd_492 (And.intro rfl (ctM_no (by unfold opRun; rw [if_neg (by rw [h1]; decide)]) rfl hR h))
  · exact h.elim
set_option maxRecDepth 100000 in
theorem wk_X6_give (B : Nat) : fw_Wk B fl_X6 (cal_X6_give B) [] cst_X6 (some .int) kX6_give 5 (ct_X6_give B) := by
  intro as M Q QX h
  unfold ct_X6_give at h
  split at h
  · rename_i a x y z u
    obtain ⟨rfl, ⟨S, n, H, tl, tx⟩, hR, hG, h⟩ := h
    have eS : mS B M = S := hR.1
    subst eS
    obtain ⟨t, ht, hW⟩ := GS_wf hG.1
    have hW : WF (6 * t) (mS B M) := hW
    have hn : mS B M 2 = nI (cn (mS B M)) := hW.1
    have hn6 : cn (mS B M) ≤ 6 := hW.2.1
    have hm : mS B M 3 = nI (pn (mS B M)) := hW.2.2.1
    have hm24 : pn (mS B M) ≤ 24 := hW.2.2.2.1
    have bad : ¬ (okN x 0 15 && okN y 0 15 && okN z 1 999 && okN u 0 1000 && decide (x ≠ y)) = true → Q (some (.int 0)) (fw_st M (B + 492) 7 1) := fun e => ctM_no (by unfold opGive; rw [if_neg e]) rfl hR h
    refine ⟨rfl, [], ⟨120, And.intro (fun h1 => ?_) (fun h1 => And.intro (fun h2 => ?_) (fun h2 => And.intro (fun h3 => ?_) (fun h3 => And.intro (fun h4 => ?_) (fun h4 => And.intro (fun h5 => ?_) (fun h5 => ?_)))))⟩, nofun⟩
    · have h1 : okN x 0 15 = false := bi_0.mp h1
      exact And.intro kd_492 (And.intro rfl (bad (by simp [h1])))
    · have h2 : okN y 0 15 = false := bi_0.mp h2
      exact And.intro kd_492 (And.intro rfl (bad (by simp [h2])))
    · have h3 : okN z 1 999 = false := bi_0.mp h3
      exact And.intro kd_492 (And.intro rfl (bad (by simp [h3])))
    · have h4 : okN u 0 1000 = false := bi_0.mp h4
      exact And.intro kd_492 (And.intro rfl (bad (by simp [h4])))
    · have h1 : okN x 0 15 = true := bi_n0.mp h1
      have h2 : okN y 0 15 = true := bi_n0.mp h2
      have h3 : okN z 1 999 = true := bi_n0.mp h3
      have h4 : okN u 0 1000 = true := bi_n0.mp h4
      have h5 : ¬ x = y := h5
      have hA : (okN x 0 15 && okN y 0 15 && okN z 1 999 && okN u 0 1000 && decide (x ≠ y)) = true := by simp [h1, h2, h3, h4, h5]
      refine And.intro kd_492 (And.intro kd_493 (And.intro (vn_493 (i := 3) (by decide)) (And.intro (fun h6 => ?_) (fun h6 => ?_))))
      · have h6 : ¬ mS B M 3 = 24 := h6
        have e : opGive x y z u (mS B M, n, H, tl, tx) = (0, mS B M 3, phZ (mS B M, n, H, tl, tx) (comS (mS B M) x y z u)) := by unfold opGive; rw [if_pos hA, if_neg h6]
        have hp : pn (mS B M) < 24 := by
          rcases Nat.lt_or_ge (pn (mS B M)) 24 with z | z
          · exact z
          · exact absurd (by rw [hm, show pn (mS B M) = 24 by omega]; rfl) h6
        have e1 : mS B (fw_row M (B + 495) (cpN 517 (mS B M) (M.1 (B + 495)))) = mS B M := row_n (by omega)
        refine And.intro kd_492 (And.intro rfl (And.intro kd_492 (And.intro rfl (And.intro (by rw [e1]; exact hm) (And.intro (by rw [e1]; exact hp) (And.intro kd_492 (And.intro kd_493 (And.intro (vn_493 (i := 3) (by decide)) (And.intro kd_492 ?_)))))))))
        refine ctM_end (QX := QX) e hR ?_ ?_ h
        · rw [e1]
          show mS B (mK B _ (comS (mS B M) x y z u)) 3 - 1 = _
          rw [mS_K]
          unfold comS
          rw [upd_s, Int32.add_sub_cancel]
        · rw [e1]
      · have h6 : mS B M 3 = 24 := h6
        exact And.intro kd_492 (And.intro rfl (ctM_no (by unfold opGive; rw [if_pos hA, if_pos h6]) rfl hR h))
    · have h5 : x = y := h5
      exact And.intro kd_492 (And.intro rfl (bad (by simp [h5])))
  · exact h.elim
set_option maxRecDepth 100000 in
theorem wk_X6_value (B : Nat) : fw_Wk B fl_X6 (cal_X6_value B) [] cst_X6 (some .int) kX6_value 2 (ct_X6_value B) := by
  intro as M Q QX h
  unfold ct_X6_value at h
  split at h
  · rename_i a x
    obtain ⟨rfl, ⟨S, n, H, tl, tx⟩, hR, hG, h⟩ := h
    have eS : mS B M = S := hR.1
    subst eS
    obtain ⟨t, ht, hW⟩ := GS_wf hG.1
    have hW : WF (6 * t) (mS B M) := hW
    have hn : mS B M 2 = nI (cn (mS B M)) := hW.1
    have hn6 : cn (mS B M) ≤ 6 := hW.2.1
    have hm : mS B M 3 = nI (pn (mS B M)) := hW.2.2.1
    have hm24 : pn (mS B M) ≤ 24 := hW.2.2.2.1
    refine ⟨rfl, [], ⟨120, And.intro (fun h1 => ?_) (fun h1 => ?_)⟩, nofun⟩
    · have h1 : okN x 0 10 = false := bi_0.mp h1
      exact And.intro kd_492 (And.intro rfl (ctM_no (by unfold opValue; rw [if_neg (by rw [h1]; decide)]) rfl hR h))
    · have h1 : okN x 0 10 = true := bi_n0.mp h1
      obtain ⟨w, -, hw, rfl, ew⟩ := ok_n (a := 0) (b := 10) (by decide) (by decide) h1
      exact And.intro kd_492 (And.intro rfl (And.intro hm (And.intro hm24 (Exists.intro w (And.intro hw (And.intro rfl (And.intro kd_492 (And.intro rfl (ctM_yes (by unfold opValue; rw [if_pos h1, ew]) hR Fr_id h)))))))))
  · exact h.elim
set_option maxRecDepth 100000 in
theorem wk_X6_courier (B : Nat) : fw_Wk B fl_X6 (cal_X6_courier B) [] cst_X6 (some .int) kX6_courier 3 (ct_X6_courier B) := by
  intro as M Q QX h
  unfold ct_X6_courier at h
  split at h
  · rename_i a x y
    obtain ⟨rfl, ⟨S, n, H, tl, tx⟩, hR, hG, h⟩ := h
    have eS : mS B M = S := hR.1
    subst eS
    obtain ⟨t, ht, hW⟩ := GS_wf hG.1
    have hW : WF (6 * t) (mS B M) := hW
    have hn : mS B M 2 = nI (cn (mS B M)) := hW.1
    have hn6 : cn (mS B M) ≤ 6 := hW.2.1
    have hm : mS B M 3 = nI (pn (mS B M)) := hW.2.2.1
    have hm24 : pn (mS B M) ≤ 24 := hW.2.2.2.1
    refine ⟨rfl, [], ⟨120, And.intro kd_492 (And.intro rfl (And.intro (fun h1 => ?_) (fun h1 => ?_)))⟩, nofun⟩
    · have h1 : isCr (mS B M) x = true := bi_n0.mp h1
      obtain ⟨c, hc, rfl, ec⟩ := isCr_n hW h1
      refine And.intro (fun h2 => ?_) (fun h2 => ?_)
      · have h2 : okN y 0 5 = false := bi_0.mp h2
        exact And.intro kd_492 (And.intro rfl (ctM_no (by unfold opCourier; rw [if_pos h1, if_neg (by rw [h2]; decide)]) rfl hR h))
      · have h2 : okN y 0 5 = true := bi_n0.mp h2
        obtain ⟨w, -, hw, rfl, ew⟩ := ok_n (a := 0) (b := 5) (by decide) (by decide) h2
        exact And.intro kd_492 (And.intro rfl (And.intro hm (And.intro hm24 (Exists.intro c (Exists.intro w (And.intro (by omega) (And.intro hw (And.intro rfl (And.intro rfl (And.intro kd_492 (And.intro rfl (ctM_yes (by unfold opCourier; rw [if_pos h1, if_pos h2, ec, ew]) hR Fr_id h))))))))))))
    · have h1 : isCr (mS B M) x = false := bi_0.mp h1
      exact And.intro kd_492 (And.intro rfl (ctM_no (by unfold opCourier; rw [if_neg (by rw [show isCr (mS B M, n, H, tl, tx).1 x = false from h1]; decide)]) rfl hR h))
  · exact h.elim
set_option maxRecDepth 100000 in
theorem wk_X6_parcel (B : Nat) : fw_Wk B fl_X6 (cal_X6_parcel B) [] cst_X6 (some .int) kX6_parcel 3 (ct_X6_parcel B) := by
  intro as M Q QX h
  unfold ct_X6_parcel at h
  split at h
  · rename_i a x y
    obtain ⟨rfl, ⟨S, n, H, tl, tx⟩, hR, hG, h⟩ := h
    have eS : mS B M = S := hR.1
    subst eS
    obtain ⟨t, ht, hW⟩ := GS_wf hG.1
    have hW : WF (6 * t) (mS B M) := hW
    have hn : mS B M 2 = nI (cn (mS B M)) := hW.1
    have hn6 : cn (mS B M) ≤ 6 := hW.2.1
    have hm : mS B M 3 = nI (pn (mS B M)) := hW.2.2.1
    have hm24 : pn (mS B M) ≤ 24 := hW.2.2.2.1
    refine ⟨rfl, [], ⟨120, And.intro kd_492 (And.intro rfl (And.intro (fun h1 => ?_) (fun h1 => ?_)))⟩, nofun⟩
    · have h1 : isPc (mS B M) x = true := bi_n0.mp h1
      obtain ⟨p, hp, rfl, ep⟩ := isPc_n hW h1
      refine And.intro (fun h2 => ?_) (fun h2 => ?_)
      · have h2 : okN y 0 8 = false := bi_0.mp h2
        exact And.intro kd_492 (And.intro rfl (ctM_no (by unfold opParcel; rw [if_pos h1, if_neg (by rw [h2]; decide)]) rfl hR h))
      · have h2 : okN y 0 8 = true := bi_n0.mp h2
        obtain ⟨w, -, hw, rfl, ew⟩ := ok_n (a := 0) (b := 8) (by decide) (by decide) h2
        exact And.intro kd_492 (And.intro rfl (Exists.intro p (Exists.intro w (And.intro (by omega) (And.intro hw (And.intro rfl (And.intro rfl (And.intro kd_492 (And.intro rfl (ctM_yes (by unfold opParcel; rw [if_pos h1, if_pos h2, ep, ew]) hR Fr_id h))))))))))
    · have h1 : isPc (mS B M) x = false := bi_0.mp h1
      exact And.intro kd_492 (And.intro rfl (ctM_no (by unfold opParcel; rw [if_neg (by rw [show isPc (mS B M, n, H, tl, tx).1 x = false from h1]; decide)]) rfl hR h))
  · exact h.elim
set_option maxRecDepth 100000 in
theorem wk_X6_leastRelay (B : Nat) : fw_Wk B fl_X6 (cal_X6_leastRelay B) [] cst_X6 (some .int) kX6_leastRelay 2 (ct_X6_leastRelay B) := by
  intro as M Q QX h
  unfold ct_X6_leastRelay at h
  split at h
  · rename_i a x
    obtain ⟨rfl, ⟨S, n, H, tl, tx⟩, hR, hG, h⟩ := h
    have eS : mS B M = S := hR.1
    subst eS
    obtain ⟨t, ht, hW⟩ := GS_wf hG.1
    have hW : WF (6 * t) (mS B M) := hW
    have hn : mS B M 2 = nI (cn (mS B M)) := hW.1
    have hn6 : cn (mS B M) ≤ 6 := hW.2.1
    have hm : mS B M 3 = nI (pn (mS B M)) := hW.2.2.1
    have hm24 : pn (mS B M) ≤ 24 := hW.2.2.2.1
    refine ⟨rfl, [], ⟨120, And.intro kd_492 (And.intro rfl (And.intro (fun h1 => ?_) (fun h1 => ?_)))⟩, nofun⟩
    · have h1 : isPc (mS B M) x = false := bi_0.mp h1
      exact And.intro kd_492 (And.intro rfl (ctM_no (by unfold opRelay; rw [if_neg (by rw [show isPc (mS B M, n, H, tl, tx).1 x = false from h1]; decide)]) rfl hR h))
    · have h1 : isPc (mS B M) x = true := bi_n0.mp h1
      obtain ⟨p, hp, rfl, ep⟩ := isPc_n hW h1
      exact And.intro kd_492 (And.intro rfl (Exists.intro (6 * t) (Exists.intro p (And.intro hW (And.intro hp (And.intro rfl (And.intro kd_492 (And.intro rfl (ctM_yes (by unfold opRelay; rw [if_pos h1, ep]) hR Fr_id h)))))))))
  · exact h.elim
set_option maxRecDepth 100000 in
theorem wk_X6_distance (B : Nat) : fw_Wk B fl_X6 (cal_X6_distance B) [] cst_X6 (some .int) kX6_distance 3 (ct_X6_distance B) := by
  intro as M Q QX h
  unfold ct_X6_distance at h
  split at h
  · rename_i a x y
    obtain ⟨rfl, ⟨S, n, H, tl, tx⟩, hR, hG, h⟩ := h
    have eS : mS B M = S := hR.1
    subst eS
    obtain ⟨t, ht, hW⟩ := GS_wf hG.1
    have hW : WF (6 * t) (mS B M) := hW
    have hn : mS B M 2 = nI (cn (mS B M)) := hW.1
    have hn6 : cn (mS B M) ≤ 6 := hW.2.1
    have hm : mS B M 3 = nI (pn (mS B M)) := hW.2.2.1
    have hm24 : pn (mS B M) ≤ 24 := hW.2.2.2.1
    refine ⟨rfl, [], ⟨120, And.intro (fun h1 => ?_) (fun h1 => And.intro (fun h2 => ?_) (fun h2 => ?_))⟩, nofun⟩
    · have h1 : okN x 0 15 = false := bi_0.mp h1
      exact And.intro kd_492 (And.intro rfl (ctM_no (by unfold opDist; rw [if_neg (by simp [h1])]) rfl hR h))
    · have h1 : okN x 0 15 = true := bi_n0.mp h1
      have h2 : okN y 0 15 = true := bi_n0.mp h2
      exact And.intro n4s (And.intro n4s (And.intro n4s (And.intro n4s (And.intro kd_492 (And.intro rfl (ctM_yes (r := dist x y) (by unfold opDist; rw [if_pos (by simp [h1, h2])]) hR Fr_id h))))))
    · have h2 : okN y 0 15 = false := bi_0.mp h2
      exact And.intro kd_492 (And.intro rfl (ctM_no (by unfold opDist; rw [if_neg (by simp [h2])]) rfl hR h))
  · exact h.elim
end WR3
end
section
/-! THE REFERENCE'S METHODS WALKED: the face, 2 -/
section WR4
theorem dd_ok : ∀ a, a < 25 → ∀ b, b < 25 → b ≠ 0 → vf_n64 (FP.ddiv (FP.i2d (nI a)) (FP.i2d (nI b))) := by unfold vf_n64; decide +kernel
theorem endN_n (S : Sx) : ∀ p, ∃ k, k ≤ p ∧ endN S p = nI k := by
  intro p
  induction p with
  | zero => exact ⟨0, Nat.le_refl 0, rfl⟩
  | succ p ih =>
    obtain ⟨k, hk, e⟩ := ih
    unfold endN
    rw [e]
    split
    · exact ⟨k, by omega, by rw [show (0 : Int32) = nI 0 from rfl, n_add, Nat.add_zero]⟩
    · exact ⟨k + 1, by omega, by rw [nI_1]⟩
theorem gdN_n (S : Sx) : ∀ p, ∃ k, k ≤ p ∧ gdN S p = nI k := by
  intro p
  induction p with
  | zero => exact ⟨0, Nat.le_refl 0, rfl⟩
  | succ p ih =>
    obtain ⟨k, hk, e⟩ := ih
    unfold gdN
    rw [e]
    split
    · exact ⟨k + 1, by omega, by rw [nI_1]⟩
    · exact ⟨k, by omega, by rw [show (0 : Int32) = nI 0 from rfl, n_add, Nat.add_zero]⟩
set_option maxRecDepth 100000 in
theorem wk_X6_legs (B : Nat) : fw_Wk B fl_X6 (cal_X6_legs B) [] cst_X6 (some .int) kX6_legs 4 (ct_X6_legs B) := by
  intro as M Q QX h
  unfold ct_X6_legs at h
  split at h
  · rename_i a x y z
    obtain ⟨rfl, ⟨S, n, H, tl, tx⟩, hR, hG, h⟩ := h
    have eS : mS B M = S := hR.1
    subst eS
    obtain ⟨t, ht, hW⟩ := GS_wf hG.1
    have hW : WF (6 * t) (mS B M) := hW
    have hn : mS B M 2 = nI (cn (mS B M)) := hW.1
    have hn6 : cn (mS B M) ≤ 6 := hW.2.1
    have hm : mS B M 3 = nI (pn (mS B M)) := hW.2.2.1
    have hm24 : pn (mS B M) ≤ 24 := hW.2.2.2.1
    have hz0 : ∀ k, 517 ≤ k → mS B M k = 0 := by obtain ⟨_, _, _, _, z⟩ := hG.1; exact z
    refine ⟨rfl, [], ⟨120, And.intro kd_492 (And.intro rfl (And.intro (fun h1 => ?_) (fun h1 => And.intro kd_492 (And.intro rfl (And.intro (fun h2 => ?_) (fun h2 => ?_))))))⟩, nofun⟩
    · have h1 : isPc (mS B M) x = false := bi_0.mp h1
      exact And.intro kd_492 (And.intro rfl (ctM_no (by unfold opLegs; rw [if_neg (by rw [show isPc (mS B M, n, H, tl, tx).1 x = false from h1]; simp)]) rfl hR h))
    · have h1 : isPc (mS B M) x = true := bi_n0.mp h1
      have h2 : isCr (mS B M) y = true := bi_n0.mp h2
      have hA : (isPc (mS B M) x && isCr (mS B M) y) = true := by rw [h1, h2]; rfl
      obtain ⟨p, hp, rfl, ep⟩ := isPc_n hW h1
      obtain ⟨c, hc, rfl, ec⟩ := isCr_n hW h2
      refine And.intro (fun h3 => ?_) (fun h3 => ?_)
      · have h3 : z = 0 := h3
        refine And.intro kd_492 (And.intro rfl (And.intro (vPL (by omega) (by omega)) (And.intro kd_492 (And.intro rfl ?_))))
        refine ctM_yes (r := mS B M ((37 : Int32) + 20 * nI p + (8 + nI c)).toNatClampNeg) ?_ hR Fr_id h
        unfold opLegs
        rw [if_pos hA, ep, ec, if_pos h3, pxL, n_cl (by omega)]
        rfl
      · have h3 : ¬ z = 0 := h3
        refine And.intro kd_492 (And.intro rfl (And.intro (vPS (by omega) (by omega)) (And.intro kd_492 (And.intro rfl ?_))))
        refine ctM_yes (r := mS B M ((37 : Int32) + 20 * nI p + (14 + nI c)).toNatClampNeg) ?_ hR Fr_id h
        unfold opLegs
        rw [if_pos hA, ep, ec, if_neg h3, pxS, n_cl (by omega)]
        rfl
    · have h2 : isCr (mS B M) y = false := bi_0.mp h2
      exact And.intro kd_492 (And.intro rfl (ctM_no (by unfold opLegs; rw [if_neg (by rw [show isCr (mS B M, n, H, tl, tx).1 y = false from h2]; simp)]) rfl hR h))
  · exact h.elim
set_option maxRecDepth 100000 in
theorem wk_X6_suited (B : Nat) : fw_Wk B fl_X6 (cal_X6_suited B) [] cst_X6 (some .int) kX6_suited 4 (ct_X6_suited B) := by
  intro as M Q QX h
  unfold ct_X6_suited at h
  split at h
  · rename_i a x
    obtain ⟨rfl, ⟨S, n, H, tl, tx⟩, hR, hG, h⟩ := h
    have eS : mS B M = S := hR.1
    subst eS
    obtain ⟨t, ht, hW⟩ := GS_wf hG.1
    have hW : WF (6 * t) (mS B M) := hW
    have hn : mS B M 2 = nI (cn (mS B M)) := hW.1
    have hn6 : cn (mS B M) ≤ 6 := hW.2.1
    have hm : mS B M 3 = nI (pn (mS B M)) := hW.2.2.1
    have hm24 : pn (mS B M) ≤ 24 := hW.2.2.2.1
    have hz0 : ∀ k, 517 ≤ k → mS B M k = 0 := by obtain ⟨_, _, _, _, z⟩ := hG.1; exact z
    refine ⟨rfl, [(18, [true, true, true, true], fun m ls st M' => ∃ p i, isPc (mS B M) x = true ∧ p < pn (mS B M) ∧ x = nI p ∧ m = cn (mS B M) - i ∧ i ≤ cn (mS B M) ∧ (i = 0 ∨ sP (mS B M) p 4 < 2) ∧ ls = [some (.ref (B + 492)), some (.int (nI p)), some (.int (suS (mS B M) p i)), some (.int (nI i))] ∧ st = [] ∧ M' = M)], ⟨40, And.intro kd_492 (And.intro rfl (And.intro (fun h1 => ?_) (fun h1 => ?_)))⟩, ?_⟩
    · have h1 : isPc (mS B M) x = true := bi_n0.mp h1
      obtain ⟨p, hp, rfl, ep⟩ := isPc_n hW h1
      exact Exists.intro (cn (mS B M)) (Exists.intro p (Exists.intro 0 ⟨h1, hp, rfl, rfl, by omega, Or.inl rfl, rfl, rfl, rfl⟩))
    · have h1 : isPc (mS B M) x = false := bi_0.mp h1
      exact And.intro kd_492 (And.intro rfl (ctM_no (by unfold opSuited; rw [if_neg (by rw [show isPc (mS B M, n, H, tl, tx).1 x = false from h1]; decide)]) rfl hR h))
    · intro q hq m ls st M' hi
      cases List.mem_singleton.mp hq
      obtain ⟨p, i, hx, hp, rfl, rfl, hi, hs, rfl, rfl, rfl⟩ := hi
      have ep : (nI p).toNatClampNeg = p := n_cl (by omega)
      have fin : (if sP (mS B M') p 4 < 2 then suS (mS B M') p (cn (mS B M')) else 0) = suS (mS B M') p i → Q (some (.int (suS (mS B M') p i))) (fw_st M' (B + 492) 7 0) := fun e =>
        ctM_yes (by unfold opSuited; rw [if_pos hx, ep]; show (0, sus (mS B M') p, _) = _; unfold sus; rw [e]) hR Fr_id h
      refine ⟨80, And.intro kd_492 (And.intro kd_493 (And.intro (vn_493 (i := 2) (by decide)) (And.intro (fun h1 => ?_) (fun h1 => And.intro kd_492 (And.intro rfl (And.intro (vP4 (by omega)) (And.intro (fun h2 => ?_) (fun h2 => ?_))))))))⟩
      · have h1 : mS B M' 2 ≤ nI i := h1
        rw [hn, n_ge (by omega) (by omega)] at h1
        have ei : i = cn (mS B M') := by omega
        refine And.intro kd_492 (And.intro rfl (fin ?_))
        rcases hs with hs | hs
        · rw [hs] at ei ⊢
          rw [← ei]
          split <;> rfl
        · rw [if_pos hs, ← ei]
      · simp (disch := omega) only [cx0, cx1, cx2, cx3, cx4, px0, px1, px2, px3, px4, px5, px6, px7, pxL, pxS, n_cl, cl0, cl1, cl2, cl3, cl4, cl5, cl6, b493, b494, b495, b496, b497] at h2
        have h2 : (2 : Int32) ≤ sP (mS B M') p 4 := h2
        refine And.intro kd_492 (And.intro rfl (fin ?_))
        rw [if_neg (Int32.not_lt.mpr h2)]
        rcases hs with hs | hs
        · rw [hs]; rfl
        · exact absurd hs (Int32.not_lt.mpr h2)
      · have h1 : ¬ mS B M' 2 ≤ nI i := h1
        rw [hn, n_ge (by omega) (by omega)] at h1
        simp (disch := omega) only [cx0, cx1, cx2, cx3, cx4, px0, px1, px2, px3, px4, px5, px6, px7, pxL, pxS, n_cl, cl0, cl1, cl2, cl3, cl4, cl5, cl6, b493, b494, b495, b496, b497] at h2
        have h2 : sP (mS B M') p 4 < 2 := Int32.not_le.mp h2
        have key : ∀ v, suS (mS B M') p (i + 1) = suS (mS B M') p i ||| v → ∃ m', m' < cn (mS B M') - i ∧ ∃ p' i', isPc (mS B M') (nI p) = true ∧ p' < pn (mS B M') ∧ nI p = nI p' ∧ m' = cn (mS B M') - i' ∧ i' ≤ cn (mS B M') ∧ (i' = 0 ∨ sP (mS B M') p' 4 < 2) ∧ [some (Value.ref (B + 492)), some (Value.int (nI p)), some (Value.int (suS (mS B M') p i ||| v)), some (Value.int (nI i + 1))] = [some (.ref (B + 492)), some (.int (nI p')), some (.int (suS (mS B M') p' i')), some (.int (nI i'))] ∧ ([] : List Value) = [] ∧ M' = M' := fun v hv =>
          ⟨cn (mS B M') - (i + 1), by omega, p, i + 1, hx, hp, rfl, rfl, by omega, Or.inr h2, by rw [hv, nI_1], rfl, rfl⟩
        refine And.intro kd_492 (And.intro rfl (Exists.intro p (Exists.intro i (And.intro (by omega) (And.intro (by omega) (And.intro rfl (And.intro rfl (And.intro (fun h3 => ?_) (fun h3 => ?_)))))))))
        · have h3 : suit (mS B M') p i = false := bi_0.mp h3
          exact key 0 (by conv => lhs; unfold suS
                          rw [h3]; rfl)
        · have h3 : suit (mS B M') p i = true := bi_n0.mp h3
          exact key ((1 : Int32) <<< (nI i &&& 31)) (by conv => lhs; unfold suS
                                                        rw [h3]; rfl)
  · exact h.elim
set_option maxRecDepth 100000 in
theorem wk_X6_punctuality (B : Nat) : fw_Wk B fl_X6 (cal_X6_punctuality B) [] cst_X6 (some .double) kX6_punctuality 4 (ct_X6_punctuality B) := by
  intro as M Q QX h
  unfold ct_X6_punctuality at h
  split at h
  · obtain ⟨rfl, ⟨S, n, H, tl, tx⟩, hR, hG, h⟩ := h
    have eS : mS B M = S := hR.1
    subst eS
    obtain ⟨t, ht, hW⟩ := GS_wf hG.1
    have hW : WF (6 * t) (mS B M) := hW
    have hm : mS B M 3 = nI (pn (mS B M)) := hW.2.2.1
    have hm24 : pn (mS B M) ≤ 24 := hW.2.2.2.1
    have h := h (fw_st M (B + 492) 7 0) (RM_st hR ⟨by decide, by decide⟩) Fr_st
    generalize eM : fw_st M (B + 492) 7 0 = M1 at h
    have e1 : mS B M1 = mS B M := by rw [← eM]; exact st_o (by omega)
    have h : Q (some (.double (punS (mS B M1)))) M1 := by rw [e1]; exact h
    rw [← e1] at hm hm24
    generalize hN : pn (mS B M1) = N at hm hm24
    refine ⟨rfl, [(11, [true, true, true, true], fun m ls st M' => ∃ i, m = N - i ∧ i ≤ N ∧ ls = [some (.ref (B + 492)), some (.int (gdN (mS B M1) i)), some (.int (endN (mS B M1) i)), some (.int (nI i))] ∧ st = [] ∧ M' = M1)], ⟨40, And.intro kd_492 (Exists.intro N (Exists.intro 0 ⟨rfl, by omega, rfl, rfl, eM⟩))⟩, ?_⟩
    intro q hq m ls st M' hi
    cases List.mem_singleton.mp hq
    obtain ⟨i, rfl, hi, rfl, rfl, rfl⟩ := hi
    refine ⟨100, And.intro kd_492 (And.intro kd_493 (And.intro (vn_493 (i := 3) (by decide)) (And.intro (fun h1 => ?_) (fun h1 => ?_))))⟩
    · have h1 : mS B M' 3 ≤ nI i := h1
      rw [hm, n_ge (by omega) (by omega)] at h1
      have ei : i = N := by omega
      subst ei
      unfold punS at h
      rw [hN] at h
      refine And.intro (fun h2 => ?_) (fun h2 => ?_)
      · have h2 : ¬ endN (mS B M') i = 0 := h2
        rw [if_neg h2] at h
        obtain ⟨k, hk, ek⟩ := endN_n (mS B M') i
        obtain ⟨g, hg, eg⟩ := gdN_n (mS B M') i
        refine And.intro ?_ h
        show vf_n64 (FP.ddiv (FP.i2d (gdN (mS B M') i)) (FP.i2d (endN (mS B M') i)))
        rw [ek, eg]
        exact dd_ok g (by omega) k (by omega) (fun e => h2 (by rw [ek, e]; rfl))
      · have h2 : endN (mS B M') i = 0 := h2
        rw [if_pos h2] at h
        exact h
    · have h1 : ¬ mS B M' 3 ≤ nI i := h1
      rw [hm, n_ge (by omega) (by omega)] at h1
      have key : ∀ u v, endN (mS B M') (i + 1) = endN (mS B M') i + u → gdN (mS B M') (i + 1) = gdN (mS B M') i + v → ∃ m', m' < N - i ∧ ∃ i', m' = N - i' ∧ i' ≤ N ∧ [some (Value.ref (B + 492)), some (Value.int (gdN (mS B M') i + v)), some (Value.int (endN (mS B M') i + u)), some (Value.int (nI i + 1))] = [some (.ref (B + 492)), some (.int (gdN (mS B M') i')), some (.int (endN (mS B M') i')), some (.int (nI i'))] ∧ ([] : List Value) = [] ∧ M' = M' := fun u v hu hv =>
        ⟨N - (i + 1), by omega, i + 1, rfl, by omega, by rw [hu, hv, nI_1], rfl, rfl⟩
      have eE : ∀ b : Int32, (if sP (mS B M') i 4 < 2 then (0 : Int32) else 1) = b → endN (mS B M') (i + 1) = endN (mS B M') i + b := fun b hb => by rw [← hb]; rfl
      have eG : ∀ b : Int32, (if sP (mS B M') i 4 = 2 ∧ sP (mS B M') i 6 ≤ sP (mS B M') i 2 then (1 : Int32) else 0) = b → gdN (mS B M') (i + 1) = gdN (mS B M') i + b := fun b hb => by rw [← hb]; rfl
      have rest : ∀ u, endN (mS B M') (i + 1) = endN (mS B M') i + u → True := fun _ _ => trivial
      refine And.intro kd_492 (And.intro rfl (And.intro (vP4 (by omega)) (And.intro (fun h2 => ?_) (fun h2 => ?_))))
      · simp (disch := omega) only [cx0, cx1, cx2, cx3, cx4, px0, px1, px2, px3, px4, px5, px6, px7, pxL, pxS, n_cl, cl0, cl1, cl2, cl3, cl4, cl5, cl6, b493, b494, b495, b496, b497] at h2
        have h2 : sP (mS B M') i 4 < 2 := h2
        refine And.intro kd_492 (And.intro rfl (And.intro (vP4 (by omega)) (And.intro (fun h3 => ?_) (fun h3 => ?_))))
        · simp (disch := omega) only [cx0, cx1, cx2, cx3, cx4, px0, px1, px2, px3, px4, px5, px6, px7, pxL, pxS, n_cl, cl0, cl1, cl2, cl3, cl4, cl5, cl6, b493, b494, b495, b496, b497] at h3
          exact key 0 0 (eE 0 (if_pos h2)) (eG 0 (if_neg (fun e => h3 e.1)))
        · simp (disch := omega) only [cx0, cx1, cx2, cx3, cx4, px0, px1, px2, px3, px4, px5, px6, px7, pxL, pxS, n_cl, cl0, cl1, cl2, cl3, cl4, cl5, cl6, b493, b494, b495, b496, b497] at h3
          have h3 : sP (mS B M') i 4 = 2 := h3
          rw [h3] at h2
          exact absurd h2 (by decide)
      · simp (disch := omega) only [cx0, cx1, cx2, cx3, cx4, px0, px1, px2, px3, px4, px5, px6, px7, pxL, pxS, n_cl, cl0, cl1, cl2, cl3, cl4, cl5, cl6, b493, b494, b495, b496, b497] at h2
        have h2 : ¬ sP (mS B M') i 4 < 2 := h2
        refine And.intro kd_492 (And.intro rfl (And.intro (vP4 (by omega)) (And.intro (fun h3 => ?_) (fun h3 => And.intro kd_492 (And.intro rfl (And.intro (vP6 (by omega)) (And.intro kd_492 (And.intro rfl (And.intro (vP2 (by omega)) (And.intro (fun h4 => ?_) (fun h4 => ?_)))))))))))
        · simp (disch := omega) only [cx0, cx1, cx2, cx3, cx4, px0, px1, px2, px3, px4, px5, px6, px7, pxL, pxS, n_cl, cl0, cl1, cl2, cl3, cl4, cl5, cl6, b493, b494, b495, b496, b497] at h3
          exact key 1 0 (eE 1 (if_neg h2)) (eG 0 (if_neg (fun e => h3 e.1)))
        · simp (disch := omega) only [cx0, cx1, cx2, cx3, cx4, px0, px1, px2, px3, px4, px5, px6, px7, pxL, pxS, n_cl, cl0, cl1, cl2, cl3, cl4, cl5, cl6, b493, b494, b495, b496, b497] at h4
          have h4 : sP (mS B M') i 2 < sP (mS B M') i 6 := h4
          exact key 1 0 (eE 1 (if_neg h2)) (eG 0 (if_neg (fun e => Int32.not_lt.mpr e.2 h4)))
        · simp (disch := omega) only [cx0, cx1, cx2, cx3, cx4, px0, px1, px2, px3, px4, px5, px6, px7, pxL, pxS, n_cl, cl0, cl1, cl2, cl3, cl4, cl5, cl6, b493, b494, b495, b496, b497] at h3 h4
          have h4 : ¬ sP (mS B M') i 2 < sP (mS B M') i 6 := h4
          exact key 1 1 (eE 1 (if_neg h2)) (eG 1 (if_pos ⟨h3, Int32.not_lt.mp h4⟩))
  · exact h.elim
set_option maxRecDepth 100000 in
theorem wk_X6_paidIn (B : Nat) : fw_Wk B fl_X6 (cal_X6_paidIn B) [] cst_X6 (some .int) kX6_paidIn 2 (ct_X6_paidIn B) := by
  intro as M Q QX h
  unfold ct_X6_paidIn at h
  split at h
  · rename_i a x
    obtain ⟨rfl, ⟨S, n, H, tl, tx⟩, hR, hG, h⟩ := h
    have eS : mS B M = S := hR.1
    subst eS
    obtain ⟨t, ht, hW⟩ := GS_wf hG.1
    have hW : WF (6 * t) (mS B M) := hW
    have hn : mS B M 2 = nI (cn (mS B M)) := hW.1
    have hn6 : cn (mS B M) ≤ 6 := hW.2.1
    have hm : mS B M 3 = nI (pn (mS B M)) := hW.2.2.1
    have hm24 : pn (mS B M) ≤ 24 := hW.2.2.2.1
    have hz0 : ∀ k, 517 ≤ k → mS B M k = 0 := by obtain ⟨_, _, _, _, z⟩ := hG.1; exact z
    refine ⟨rfl, [], ⟨120, And.intro (fun h1 => ?_) (fun h1 => ?_)⟩, nofun⟩
    · have h1 : okN x 0 200 = false := bi_0.mp h1
      exact And.intro kd_492 (And.intro rfl (ctM_no (by unfold opPaid; rw [if_neg (by rw [h1]; decide)]) rfl hR h))
    · have h1 : okN x 0 200 = true := bi_n0.mp h1
      obtain ⟨k, -, hk, rfl, ek⟩ := ok_n (a := 0) (b := 200) (by decide) (by decide) h1
      refine And.intro kd_492 (And.intro rfl (Exists.intro (6 * t) (Exists.intro k (And.intro (by omega) (And.intro rfl (And.intro hW (And.intro hz0 ?_)))))))
      intro M' a1 a2 a3 a4
      exact And.intro kd_492 (And.intro rfl (ctM_yes (by unfold opPaid; rw [if_pos h1, ek]) (a3 _ hR) a4 h))
  · exact h.elim
set_option maxRecDepth 100000 in
theorem wk_X6_worth (B : Nat) : fw_Wk B fl_X6 (cal_X6_worth B) [] cst_X6 (some .int) kX6_worth 4 (ct_X6_worth B) := by
  intro as M Q QX h
  unfold ct_X6_worth at h
  split at h
  · rename_i a x y
    obtain ⟨rfl, ⟨S, n, H, tl, tx⟩, hR, hG, h⟩ := h
    have eS : mS B M = S := hR.1
    subst eS
    obtain ⟨t, ht, hW⟩ := GS_wf hG.1
    have hW : WF (6 * t) (mS B M) := hW
    have hn : mS B M 2 = nI (cn (mS B M)) := hW.1
    have hn6 : cn (mS B M) ≤ 6 := hW.2.1
    have hm : mS B M 3 = nI (pn (mS B M)) := hW.2.2.1
    have hm24 : pn (mS B M) ≤ 24 := hW.2.2.2.1
    have hz0 : ∀ k, 517 ≤ k → mS B M k = 0 := by obtain ⟨_, _, _, _, z⟩ := hG.1; exact z
    refine ⟨rfl, [], ⟨160, And.intro kd_492 (And.intro rfl (And.intro (fun h1 => ?_) (fun h1 => ?_)))⟩, nofun⟩
    · have h1 : isCr (mS B M) x = true := bi_n0.mp h1
      obtain ⟨c, hc, rfl, ec⟩ := isCr_n hW h1
      refine And.intro (fun h2 => ?_) (fun h2 => ?_)
      · have h2 : okN y 0 200 = true := bi_n0.mp h2
        obtain ⟨k, -, hk, rfl, ek⟩ := ok_n (a := 0) (b := 200) (by decide) (by decide) h2
        have e : opWorth (nI c) (nI k) (mS B M, n, H, tl, tx) = (0, payN (mS B M) k - payN (rtS (mS B M) c) k, (mS B M, n, H, tl, tx)) := by unfold opWorth; rw [if_pos h1, if_pos h2, ec, ek]
        have hD : WF (6 * t) (rtS (mS B M) c) := WF_area (WF_dr hW hc) (by omega)
        refine And.intro kd_492 (And.intro rfl (Exists.intro (6 * t) (Exists.intro k (And.intro (by omega) (And.intro rfl (And.intro hW (And.intro hz0 ?_)))))))
        intro M' a1 a2 a3 a4
        refine And.intro kd_492 (And.intro rfl (Exists.intro (6 * t) (Exists.intro c (And.intro (by rw [a1]; exact hW) (And.intro (by rw [a1]; exact hc) (And.intro rfl ?_))))))
        refine And.intro kd_492 (And.intro rfl (And.intro (vC0 (by omega)) ?_))
        have e1 : mK B (mK B M' (drS (mS B M') c)) (upd (mS B (mK B M' (drS (mS B M') c))) ((7 : Int32) + 5 * nI c + 0).toNatClampNeg 0) = mK B M' (rtS (mS B M) c) := by
          rw [mS_K, mK_K, a1, cx0, n_cl (by omega)]
          rfl
        refine And.intro kd_492 (And.intro rfl (Exists.intro (6 * t) (Exists.intro k (Exists.intro (mS B M) (And.intro (by omega) (And.intro rfl (And.intro ?_ (And.intro (fun j hj => ?_) (And.intro (fun j hj => ?_) (And.intro kd_492 (And.intro rfl ?_)))))))))))
        · show WF (6 * t) (mS B (mK B (mK B M' (drS (mS B M') c)) (upd (mS B (mK B M' (drS (mS B M') c))) ((7 : Int32) + 5 * nI c + 0).toNatClampNeg 0)))
          rw [e1, mS_K]
          exact hD
        · show (mK B (mK B M' (drS (mS B M') c)) (upd (mS B (mK B M' (drS (mS B M') c))) ((7 : Int32) + 5 * nI c + 0).toNatClampNeg 0)).1 (B + 496) j = _
          rw [e1, row_n (by omega)]
          exact a2 j hj
        · show mS B (mK B (mK B M' (drS (mS B M') c)) (upd (mS B (mK B M' (drS (mS B M') c))) ((7 : Int32) + 5 * nI c + 0).toNatClampNeg 0)) j = 0 ∧ _
          rw [e1, mS_K]
          refine ⟨?_, hz0 j hj⟩
          unfold rtS
          rw [uC_hi (by omega) (by decide) hj, drS_hi hW hc hj]
          exact hz0 j hj
        · show Q (some (.int (payN (mS B M) k - payN (mS B (mK B (mK B M' (drS (mS B M') c)) (upd (mS B (mK B M' (drS (mS B M') c))) ((7 : Int32) + 5 * nI c + 0).toNatClampNeg 0))) k))) (fw_st (mK B (mK B (mK B M' (drS (mS B M') c)) (upd (mS B (mK B M' (drS (mS B M') c))) ((7 : Int32) + 5 * nI c + 0).toNatClampNeg 0)) (mS B M)) (B + 492) 7 0)
          rw [e1, mS_K, mK_K, ← a1, mK_S, a1]
          exact ctM_yes e (a3 _ hR) a4 h
      · have h2 : okN y 0 200 = false := bi_0.mp h2
        exact And.intro kd_492 (And.intro rfl (ctM_no (by unfold opWorth; rw [if_pos h1, if_neg (by rw [h2]; decide)]) rfl hR h))
    · have h1 : isCr (mS B M) x = false := bi_0.mp h1
      exact And.intro kd_492 (And.intro rfl (ctM_no (by unfold opWorth; rw [if_neg (by rw [show isCr (mS B M, n, H, tl, tx).1 x = false from h1]; decide)]) rfl hR h))
  · exact h.elim
set_option maxRecDepth 100000 in
theorem wk_X6_bestZone (B : Nat) : fw_Wk B fl_X6 (cal_X6_bestZone B) [] cst_X6 (some .int) kX6_bestZone 7 (ct_X6_bestZone B) := by
  intro as M Q QX h
  unfold ct_X6_bestZone at h
  split at h
  · rename_i a x y
    obtain ⟨rfl, ⟨S, n, H, tl, tx⟩, hR, hG, h⟩ := h
    have eS : mS B M = S := hR.1
    subst eS
    obtain ⟨t, ht, hW⟩ := GS_wf hG.1
    have hW : WF (6 * t) (mS B M) := hW
    have hn : mS B M 2 = nI (cn (mS B M)) := hW.1
    have hn6 : cn (mS B M) ≤ 6 := hW.2.1
    have hm : mS B M 3 = nI (pn (mS B M)) := hW.2.2.1
    have hm24 : pn (mS B M) ≤ 24 := hW.2.2.2.1
    have hz0 : ∀ k, 517 ≤ k → mS B M k = 0 := by obtain ⟨_, _, _, _, z⟩ := hG.1; exact z
    refine ⟨rfl, [(39, [true, true, true, true, true, true, false], fun m ls st M' => ∃ c k z, isCr (mS B M) x = true ∧ okN y 0 200 = true ∧ c < cn (mS B M) ∧ k ≤ 200 ∧ x = nI c ∧ y = nI k ∧ m = 16 - z ∧ z ≤ 16 ∧ ls = [some (.ref (B + 492)), some (.int (nI c)), some (.int (nI k)), some (.int (bzL (mS B M) c k z).2), some (.int (bzL (mS B M) c k z).1), some (.int (nI z)), none] ∧ st = [] ∧ mS B M' = mS B M ∧ (∀ j, j < 517 → M'.1 (B + 496) j = mS B M j) ∧ RM B M' (mS B M, n, H, tl, tx) ∧ Fr B M M')], ⟨160, And.intro kd_492 (And.intro rfl (And.intro (fun h1 => ?_) (fun h1 => ?_)))⟩, ?_⟩
    · have h1 : isCr (mS B M) x = true := bi_n0.mp h1
      obtain ⟨c, hc, rfl, ec⟩ := isCr_n hW h1
      refine And.intro (fun h2 => ?_) (fun h2 => ?_)
      · have h2 : okN y 0 200 = true := bi_n0.mp h2
        obtain ⟨k, -, hk, rfl, ek⟩ := ok_n (a := 0) (b := 200) (by decide) (by decide) h2
        refine And.intro kd_492 (And.intro rfl (Exists.intro (6 * t) (Exists.intro k (And.intro (by omega) (And.intro rfl (And.intro hW (And.intro hz0 ?_)))))))
        intro M' a1 a2 a3 a4
        exact Exists.intro 16 (Exists.intro c (Exists.intro k (Exists.intro 0 ⟨h1, h2, hc, hk, rfl, rfl, rfl, by omega, rfl, rfl, a1, a2, a3 _ hR, a4⟩)))
      · have h2 : okN y 0 200 = false := bi_0.mp h2
        exact And.intro kd_492 (And.intro rfl (ctM_no (by unfold opBest; rw [if_pos h1, if_neg (by rw [h2]; decide)]) rfl hR h))
    · have h1 : isCr (mS B M) x = false := bi_0.mp h1
      exact And.intro kd_492 (And.intro rfl (ctM_no (by unfold opBest; rw [if_neg (by rw [show isCr (mS B M, n, H, tl, tx).1 x = false from h1]; decide)]) rfl hR h))
    · intro q hq m ls st M' hi
      cases List.mem_singleton.mp hq
      obtain ⟨c, k, z, hx, hy, hc, hk, rfl, rfl, rfl, hz, rfl, rfl, a1, a2, a3, a4⟩ := hi
      have ec : (nI c).toNatClampNeg = c := n_cl (by omega)
      have ek : (nI k).toNatClampNeg = k := n_cl (by omega)
      refine ⟨160, And.intro (fun h1 => ?_) (fun h1 => ?_)⟩
      · have h1 : nI 16 ≤ nI z := h1
        rw [n_ge (by decide) (by omega)] at h1
        have ez : z = 16 := by omega
        subst ez
        exact And.intro kd_492 (And.intro rfl (ctM_yes (by unfold opBest; rw [if_pos hx, if_pos hy, ec, ek]) a3 a4 h))
      · have h1 : ¬ nI 16 ≤ nI z := h1
        rw [n_ge (by decide) (by omega)] at h1
        have key : ∀ M'' u v w, M'' = M' → w = none → bzL (mS B M) c k (z + 1) = (u, v) → ∃ m', m' < 16 - z ∧ ∃ c' k' z', isCr (mS B M) (nI c) = true ∧ okN (nI k) 0 200 = true ∧ c' < cn (mS B M) ∧ k' ≤ 200 ∧ nI c = nI c' ∧ nI k = nI k' ∧ m' = 16 - z' ∧ z' ≤ 16 ∧ ([some (.ref (B + 492)), some (.int (nI c)), some (.int (nI k)), some (.int v), some (.int u), some (.int (nI z + 1)), w] : fw_L) = [some (.ref (B + 492)), some (.int (nI c')), some (.int (nI k')), some (.int (bzL (mS B M) c' k' z').2), some (.int (bzL (mS B M) c' k' z').1), some (.int (nI z')), none] ∧ ([] : List Value) = [] ∧ mS B M'' = mS B M ∧ (∀ j, j < 517 → M''.1 (B + 496) j = mS B M j) ∧ RM B M'' (mS B M, n, H, tl, tx) ∧ Fr B M M'' := by
          rintro M'' u v w rfl rfl hb
          exact ⟨16 - (z + 1), by omega, c, k, z + 1, hx, hy, hc, hk, rfl, rfl, rfl, by omega, by rw [hb, nI_1], rfl, a1, a2, a3, a4⟩
        refine And.intro kd_492 (And.intro rfl (Exists.intro c (And.intro (by omega) (And.intro rfl (And.intro (fun h2 => ?_) (fun h2 => ?_))))))
        · have h2 : hs (sC (mS B M') c 0) (nI z) = true := bi_n0.mp h2
          refine key M' _ _ none rfl rfl ?_
          conv => lhs; unfold bzL
          rw [← a1, if_pos h2]
        · have h2 : ¬ hs (sC (mS B M') c 0) (nI z) = true := by rw [bi_0.mp h2]; decide
          rw [a1] at h2
          refine And.intro kd_492 (And.intro rfl (And.intro (vC0 (by omega)) (And.intro kd_492 (And.intro rfl (And.intro (vC0 (by omega)) ?_)))))
          have e1 : mK B M' (upd (mS B M') ((7 : Int32) + 5 * nI c + 0).toNatClampNeg (mS B M' ((7 : Int32) + 5 * nI c + 0).toNatClampNeg ||| (1 : Int32) <<< (nI z &&& 31))) = mK B M' (wdS (mS B M) c z) := by
            rw [a1, cx0, n_cl (by omega)]
            rfl
          have hD : WF (6 * t) (wdS (mS B M) c z) := WF_area hW (by omega)
          refine And.intro kd_492 (And.intro rfl (Exists.intro (6 * t) (Exists.intro k (Exists.intro (mS B M) (And.intro (by omega) (And.intro rfl (And.intro ?_ (And.intro (fun j hj => ?_) (And.intro (fun j hj => ?_) ?_)))))))))
          · show WF (6 * t) (mS B (mK B M' (upd (mS B M') ((7 : Int32) + 5 * nI c + 0).toNatClampNeg (mS B M' ((7 : Int32) + 5 * nI c + 0).toNatClampNeg ||| (1 : Int32) <<< (nI z &&& 31)))))
            rw [e1, mS_K]
            exact hD
          · show (mK B M' (upd (mS B M') ((7 : Int32) + 5 * nI c + 0).toNatClampNeg (mS B M' ((7 : Int32) + 5 * nI c + 0).toNatClampNeg ||| (1 : Int32) <<< (nI z &&& 31)))).1 (B + 496) j = _
            rw [row_n (by omega)]
            exact a2 j hj
          · show mS B (mK B M' (upd (mS B M') ((7 : Int32) + 5 * nI c + 0).toNatClampNeg (mS B M' ((7 : Int32) + 5 * nI c + 0).toNatClampNeg ||| (1 : Int32) <<< (nI z &&& 31)))) j = 0 ∧ _
            rw [e1, mS_K]
            refine ⟨?_, hz0 j hj⟩
            unfold wdS
            rw [uC_hi (by omega) (by decide) hj]
            exact hz0 j hj
          have e2 : mK B (mK B M' (upd (mS B M') ((7 : Int32) + 5 * nI c + 0).toNatClampNeg (mS B M' ((7 : Int32) + 5 * nI c + 0).toNatClampNeg ||| (1 : Int32) <<< (nI z &&& 31)))) (mS B M) = M' := by
            rw [mK_K, ← a1, mK_S]
          have e3 : payN (mS B (mK B M' (upd (mS B M') ((7 : Int32) + 5 * nI c + 0).toNatClampNeg (mS B M' ((7 : Int32) + 5 * nI c + 0).toNatClampNeg ||| (1 : Int32) <<< (nI z &&& 31))))) k = payN (wdS (mS B M) c z) k := by rw [e1, mS_K]
          have hb : ∀ u v, (if (bzL (mS B M) c k z).2 < payN (wdS (mS B M) c z) k then (nI z, payN (wdS (mS B M) c z) k) else bzL (mS B M) c k z) = (u, v) → bzL (mS B M) c k (z + 1) = (u, v) := fun u v hv => by
            conv => lhs; unfold bzL
            rw [if_neg h2]
            exact hv
          refine And.intro (fun h3 => ?_) (fun h3 => ?_)
          · have h3 : payN (mS B (mK B M' (upd (mS B M') ((7 : Int32) + 5 * nI c + 0).toNatClampNeg (mS B M' ((7 : Int32) + 5 * nI c + 0).toNatClampNeg ||| (1 : Int32) <<< (nI z &&& 31))))) k ≤ (bzL (mS B M) c k z).2 := h3
            refine And.intro (fun _ => ?_) (fun h4 => absurd h3 h4)
            rw [e3] at h3
            exact key _ _ _ none e2 rfl (hb _ _ (if_neg (Int32.not_lt.mpr h3)))
          · have h3 : ¬ payN (mS B (mK B M' (upd (mS B M') ((7 : Int32) + 5 * nI c + 0).toNatClampNeg (mS B M' ((7 : Int32) + 5 * nI c + 0).toNatClampNeg ||| (1 : Int32) <<< (nI z &&& 31))))) k ≤ (bzL (mS B M) c k z).2 := h3
            refine And.intro (fun h4 => absurd h4 h3) (fun _ => ?_)
            have h3' := h3
            rw [e3] at h3'
            refine key _ _ _ none e2 rfl (hb _ _ ?_)
            rw [if_pos (Int32.not_le.mp h3')]
            exact congrArg (fun v => (nI z, v)) e3.symm
  · exact h.elim
set_option maxRecDepth 100000 in
theorem wk_X6_doneIn (B : Nat) : fw_Wk B fl_X6 (cal_X6_doneIn B) [] cst_X6 (some .int) kX6_doneIn 3 (ct_X6_doneIn B) := by
  intro as M Q QX h
  unfold ct_X6_doneIn at h
  split at h
  · rename_i a 
    obtain ⟨rfl, ⟨S, n, H, tl, tx⟩, hR, hG, h⟩ := h
    have eS : mS B M = S := hR.1
    subst eS
    obtain ⟨t, ht, hW⟩ := GS_wf hG.1
    have hW : WF (6 * t) (mS B M) := hW
    have hn : mS B M 2 = nI (cn (mS B M)) := hW.1
    have hn6 : cn (mS B M) ≤ 6 := hW.2.1
    have hm : mS B M 3 = nI (pn (mS B M)) := hW.2.2.1
    have hm24 : pn (mS B M) ≤ 24 := hW.2.2.2.1
    have hz0 : ∀ k, 517 ≤ k → mS B M k = 0 := by obtain ⟨_, _, _, _, z⟩ := hG.1; exact z
    have e1 : mS B (fw_row M (B + 496) (cpN 517 (M.1 (B + 493)) (M.1 (B + 496)))) = mS B M := row_n (by omega)
    have hR1 := RM_row (f := cpN 517 (M.1 (B + 493)) (M.1 (B + 496))) hR (Or.inr rfl)
    have hF1 : Fr B M (fw_row M (B + 496) (cpN 517 (M.1 (B + 493)) (M.1 (B + 496)))) := Fr_row (by decide) (by decide)
    have hk1 : ∀ j, j < 517 → (fw_row M (B + 496) (cpN 517 (M.1 (B + 493)) (M.1 (B + 496)))).1 (B + 496) j = mS B M j := fun j hj => by rw [row_1]; unfold cpN; rw [if_pos hj]
    have hne : B + 496 ≠ B + 493 := by omega
    have hne' : B + 493 ≠ B + 496 := by omega
    generalize eM1 : fw_row M (B + 496) (cpN 517 (M.1 (B + 493)) (M.1 (B + 496))) = M1 at e1 hR1 hF1 hk1
    refine ⟨rfl, [(13, [true, true, false], fun m ls st M' => ∃ i, m = 1200 - i ∧ i ≤ 1200 ∧ dnF (mS B M) 1200 0 = dnF (mS B M) (1200 - i) i ∧ ls = [some (.ref (B + 492)), some (.int (nI i)), none] ∧ st = [] ∧ M' = mK B M1 (tkN (mS B M) i))], ⟨160, ?_⟩, ?_⟩
    · refine And.intro kd_492 (And.intro kd_492 (And.intro kd_496 (And.intro kd_493 (And.intro ln_496 (And.intro ln_493 (And.intro hne ?_))))))
      refine Exists.intro 1200 (Exists.intro 0 ⟨rfl, by omega, rfl, rfl, rfl, ?_⟩)
      refine Eq.trans eM1 ?_
      show M1 = mK B M1 (mS B M)
      rw [← e1, mK_S]
    · intro q hq m ls st M' hi
      cases List.mem_singleton.mp hq
      obtain ⟨i, rfl, hi, hd, rfl, rfl, rfl⟩ := hi
      have e3 : tkN (mS B M) i 3 = mS B M 3 := tkN_lo (by decide) (by decide) i
      have ep : pn (tkN (mS B M) i) = pn (mS B M) := pn_eq e3
      have em : mS B (mK B M1 (tkN (mS B M) i)) 3 = nI (pn (mS B (mK B M1 (tkN (mS B M) i)))) := by rw [mS_K, ep, e3]; exact hm
      have em24 : pn (mS B (mK B M1 (tkN (mS B M) i))) ≤ 24 := by rw [mS_K, ep]; exact hm24
      have back : fw_row (mK B M1 (tkN (mS B M) i)) (B + 493) (cpN 517 ((mK B M1 (tkN (mS B M) i)).1 (B + 496)) (mS B (mK B M1 (tkN (mS B M) i)))) = M1 := by
        rw [row_row, row_n (by omega), mS_K]
        have e : cpN 517 (M1.1 (B + 496)) (tkN (mS B M) i) = mS B M1 := by
          funext k
          rw [e1]
          unfold cpN
          by_cases g : k < 517
          · rw [if_pos g]; exact hk1 k g
          · rw [if_neg g, tkN_hi hW (by omega)]
        rw [e, row_self]
      have stop : dnF (mS B M) 1200 0 = (if dnB (tkN (mS B M) i) = true then nI i else -1) → ∀ M2, M2 = M1 → Q (some (.int (if dnB (tkN (mS B M) i) = true then nI i else -1))) (fw_st M2 (B + 492) 7 0) := by
        rintro e M2 rfl
        exact ctM_yes (by unfold opDone; rw [e]) hR1 hF1 h
      refine ⟨160, And.intro (fun h1 => ?_) (fun h1 => And.intro kd_492 (And.intro rfl (And.intro em (And.intro em24 (And.intro (fun h2 => ?_) (fun h2 => ?_))))))⟩
      · have h1 : nI 1200 ≤ nI i := h1
        rw [n_ge (by decide) (by omega)] at h1
        have ei : i = 1200 := by omega
        have e := stop (by rw [hd, ei]; rfl)
        refine And.intro kd_492 (And.intro rfl (And.intro em (And.intro em24 ?_)))
        refine And.intro kd_492 (And.intro kd_492 (And.intro kd_493 (And.intro kd_496 (And.intro ln_493 (And.intro ln_496 (And.intro hne' ?_))))))
        refine And.intro (fun h3 => ?_) (fun h3 => ?_)
        · have h3 := bi_0.mp h3
          rw [mS_K] at h3
          rw [if_neg (by rw [h3]; decide)] at e
          exact And.intro kd_492 (And.intro rfl (e _ back))
        · have h3 := bi_n0.mp h3
          rw [mS_K] at h3
          rw [if_pos h3] at e
          exact And.intro kd_492 (And.intro rfl (e _ back))
      · have h2 := bi_n0.mp h2
        rw [mS_K] at h2
        have e := stop (by rw [hd, if_pos h2]; cases (1200 - i) <;> (unfold dnF; rw [if_pos h2]))
        rw [if_pos h2] at e
        refine And.intro kd_492 (And.intro rfl (And.intro em (And.intro em24 ?_)))
        refine And.intro kd_492 (And.intro kd_492 (And.intro kd_493 (And.intro kd_496 (And.intro ln_493 (And.intro ln_496 (And.intro hne' ?_))))))
        refine And.intro (fun h3 => ?_) (fun h3 => ?_)
        · have h3 := bi_0.mp h3
          rw [mS_K, h2] at h3
          exact absurd h3 (by decide)
        · exact And.intro kd_492 (And.intro rfl (e _ back))
      · have h1 : ¬ nI 1200 ≤ nI i := h1
        rw [n_ge (by decide) (by omega)] at h1
        have h2 := bi_0.mp h2
        rw [mS_K] at h2
        refine And.intro kd_492 (And.intro rfl (Exists.intro (6 * t + 6 * i) (And.intro (by omega) (And.intro (by rw [mS_K]; exact WF_tkN hW i) ?_))))
        refine Exists.intro (1200 - (i + 1)) (And.intro (by omega) (Exists.intro (i + 1) ⟨rfl, by omega, ?_, ?_, rfl, ?_⟩))
        · rw [hd, show 1200 - i = (1200 - (i + 1)) + 1 by omega]
          conv => lhs; unfold dnF
          rw [if_neg (by rw [h2]; decide)]
        · show [some (Value.ref (B + 492)), some (Value.int (nI i + 1)), none] = _
          rw [nI_1]
        · show mK B (mK B M1 (tkN (mS B M) i)) (tickS (mS B (mK B M1 (tkN (mS B M) i)))) = _
          rw [mS_K, mK_K]
          rfl
  · exact h.elim
set_option maxRecDepth 100000 in
theorem wk_X6_append (B : Nat) : fw_Wk B fl_X6 (cal_X6_append B) [] cst_X6 (some .int) kX6_append 2 (ct_X6_append B) := by
  intro as M Q QX h
  unfold ct_X6_append at h
  split at h
  · rename_i a x
    obtain ⟨rfl, ⟨S, n, H, tl, tx⟩, hR, hG, h⟩ := h
    have eS : mS B M = S := hR.1
    subst eS
    obtain ⟨t, ht, hW⟩ := GS_wf hG.1
    have hW : WF (6 * t) (mS B M) := hW
    have hn : mS B M 2 = nI (cn (mS B M)) := hW.1
    have hn6 : cn (mS B M) ≤ 6 := hW.2.1
    have hm : mS B M 3 = nI (pn (mS B M)) := hW.2.2.1
    have hm24 : pn (mS B M) ≤ 24 := hW.2.2.2.1
    have hz0 : ∀ k, 517 ≤ k → mS B M k = 0 := by obtain ⟨_, _, _, _, z⟩ := hG.1; exact z
    have ht6 : M.1 (B + 492) 6 = nI tl := hR.2.2.2.2.1
    have htl : tl ≤ 150 := hR.2.2.2.2.2.1
    refine ⟨rfl, [], ⟨160, And.intro (fun h1 => ?_) (fun h1 => ?_)⟩, nofun⟩
    · have h1 : okN x 0 127 = true := bi_n0.mp h1
      refine And.intro kd_492 (And.intro (fun h2 => ?_) (fun h2 => ?_))
      · have h2 : ¬ M.1 (B + 492) 6 = nI 150 := h2
        rw [ht6, nI_eq (by omega) (by decide)] at h2
        have e : opAppend x (mS B M, n, H, tl, tx) = (0, nI (tl + 1), (mS B M, n, H, tl + 1, upd tx tl x)) := by unfold opAppend; rw [if_pos h1, if_neg h2]
        refine And.intro kd_492 (And.intro kd_492 (And.intro kd_497 (And.intro ?_ (And.intro kd_492 (And.intro kd_492 (And.intro kd_492 (And.intro kd_492 (And.intro rfl ?_))))))))
        · show fw_sd (vp_in (M.1 (B + 492) 6) (fw_len B (B + 497)))
          rw [ht6, ln_497]; exact vn_i (by omega) (by decide)
        · show Q (some (.int ((fw_st (fw_st M (B + 497) (M.1 (B + 492) 6).toNatClampNeg x) (B + 492) 6 ((fw_st M (B + 497) (M.1 (B + 492) 6).toNatClampNeg x).1 (B + 492) 6 + 1)).1 (B + 492) 6))) (fw_st (fw_st (fw_st M (B + 497) (M.1 (B + 492) 6).toNatClampNeg x) (B + 492) 6 ((fw_st M (B + 497) (M.1 (B + 492) 6).toNatClampNeg x).1 (B + 492) 6 + 1)) (B + 492) 7 0)
          rw [st_s, st_o (by omega), ht6, n_cl (by omega), nI_1]
          refine ctM_yes e ?_ (Fr_tr (Fr_row (by decide) (by decide)) Fr_st) h
          obtain ⟨g1, g2, g3, g4, g5, g6, g7⟩ := hR
          refine ⟨?_, ?_, g3, fun i hi k hk => ?_, st_s, by show tl + 1 ≤ 150; omega, fun k hk => ?_⟩
          · rw [st_o (by omega), st_o (by omega)]
          · rw [st_n (by decide), st_o (by omega)]; exact g2
          · rw [st_o (by omega), st_o (by omega)]; exact g4 i hi k hk
          · have hk : k < tl + 1 := hk
            rw [st_o (by omega), st_row, row_1]
            show upd (M.1 (B + 497)) tl x k = upd tx tl x k
            unfold upd
            by_cases e9 : k = tl
            · rw [if_pos e9, if_pos e9]
            · rw [if_neg e9, if_neg e9]; exact g7 k (by show k < tl; omega)
      · have h2 : M.1 (B + 492) 6 = nI 150 := h2
        rw [ht6, nI_eq (by omega) (by decide)] at h2
        exact And.intro kd_492 (And.intro rfl (ctM_no (by unfold opAppend; rw [if_pos h1, if_pos h2]) rfl hR h))
    · have h1 : okN x 0 127 = false := bi_0.mp h1
      exact And.intro kd_492 (And.intro rfl (ctM_no (by unfold opAppend; rw [if_neg (by rw [h1]; decide)]) rfl hR h))
  · exact h.elim
set_option maxRecDepth 100000 in
theorem wk_X6_clearText (B : Nat) : fw_Wk B fl_X6 (cal_X6_clearText B) [] cst_X6 (some .int) kX6_clearText 2 (ct_X6_clearText B) := by
  intro as M Q QX h
  unfold ct_X6_clearText at h
  split at h
  · rename_i a 
    obtain ⟨rfl, ⟨S, n, H, tl, tx⟩, hR, hG, h⟩ := h
    have eS : mS B M = S := hR.1
    subst eS
    obtain ⟨t, ht, hW⟩ := GS_wf hG.1
    have hW : WF (6 * t) (mS B M) := hW
    have hn : mS B M 2 = nI (cn (mS B M)) := hW.1
    have hn6 : cn (mS B M) ≤ 6 := hW.2.1
    have hm : mS B M 3 = nI (pn (mS B M)) := hW.2.2.1
    have hm24 : pn (mS B M) ≤ 24 := hW.2.2.2.1
    have hz0 : ∀ k, 517 ≤ k → mS B M k = 0 := by obtain ⟨_, _, _, _, z⟩ := hG.1; exact z
    have ht6 : M.1 (B + 492) 6 = nI tl := hR.2.2.2.2.1
    refine ⟨rfl, [], ⟨60, And.intro kd_492 (And.intro kd_492 (And.intro kd_492 (And.intro rfl ?_)))⟩, nofun⟩
    show Q (some (.int (M.1 (B + 492) 6))) (fw_st (fw_st M (B + 492) 6 0) (B + 492) 7 0)
    rw [ht6]
    refine ctM_yes (Z' := (mS B M, n, H, 0, tx)) (by unfold opClear; rfl) ?_ Fr_st h
    obtain ⟨g1, g2, g3, g4, g5, g6, g7⟩ := hR
    refine ⟨?_, ?_, g3, fun i hi k hk => ?_, st_s, Nat.zero_le _, fun k hk => absurd hk (Nat.not_lt_zero k)⟩
    · rw [st_o (by omega)]
    · rw [st_n (by decide)]; exact g2
    · rw [st_o (by omega)]; exact g4 i hi k hk
  · exact h.elim
set_option maxRecDepth 100000 in
theorem wk_X6_undo (B : Nat) : fw_Wk B fl_X6 (cal_X6_undo B) [] cst_X6 (some .int) kX6_undo 2 (ct_X6_undo B) := by
  intro as M Q QX h
  unfold ct_X6_undo at h
  split at h
  · rename_i a 
    obtain ⟨rfl, ⟨S, n, H, tl, tx⟩, hR, hG, h⟩ := h
    have eS : mS B M = S := hR.1
    subst eS
    obtain ⟨t, ht, hW⟩ := GS_wf hG.1
    have hW : WF (6 * t) (mS B M) := hW
    have hn : mS B M 2 = nI (cn (mS B M)) := hW.1
    have hn6 : cn (mS B M) ≤ 6 := hW.2.1
    have hm : mS B M 3 = nI (pn (mS B M)) := hW.2.2.1
    have hm24 : pn (mS B M) ≤ 24 := hW.2.2.2.1
    have hz0 : ∀ k, 517 ≤ k → mS B M k = 0 := by obtain ⟨_, _, _, _, z⟩ := hG.1; exact z
    have h4 : M.1 (B + 492) 4 = nI n := hR.2.1
    have hn4 : n ≤ 4 := hR.2.2.1
    have hp : ∀ i, i < n → ∀ k, k < 517 → M.1 (B + 494) (517 * i + k) = H i k := hR.2.2.2.1
    refine ⟨rfl, [(25, [true, true], fun m ls st M' => ∃ i v, n = v + 1 ∧ m = 517 - i ∧ i ≤ 517 ∧ ls = [some (.ref (B + 492)), some (.int (nI i))] ∧ st = [] ∧ M' = fw_row (fw_st M (B + 492) 4 (nI v)) (B + 493) (cpN i (H v) (mS B M)))], ⟨60, And.intro kd_492 (And.intro (fun h1 => ?_) (fun h1 => ?_))⟩, ?_⟩
    · have h1 : ¬ M.1 (B + 492) 4 = 0 := h1
      rw [h4, show (0 : Int32) = nI 0 from rfl, nI_eq (by omega) (by decide)] at h1
      obtain ⟨v, rfl⟩ : ∃ v, n = v + 1 := ⟨n - 1, by omega⟩
      refine And.intro kd_492 (And.intro kd_492 (Exists.intro 517 (Exists.intro 0 (Exists.intro v ⟨rfl, rfl, by omega, rfl, rfl, ?_⟩))))
      show fw_st M (B + 492) 4 (M.1 (B + 492) 4 - 1) = _
      rw [h4, show (1 : Int32) = nI 1 from rfl, pk_sub (by omega), Nat.add_sub_cancel, cpN_0, show mS B M = (fw_st M (B + 492) 4 (nI v)).1 (B + 493) from (st_o (by omega)).symm, row_self]
    · have h1 : M.1 (B + 492) 4 = 0 := h1
      rw [h4, show (0 : Int32) = nI 0 from rfl, nI_eq (by omega) (by decide)] at h1
      exact And.intro kd_492 (And.intro rfl (ctM_no (by unfold opUndo; rw [if_pos h1]) rfl hR h))
    · intro q hq m ls st M' hi
      cases List.mem_singleton.mp hq
      obtain ⟨i, v, hv, rfl, hi, rfl, rfl, rfl⟩ := hi
      subst hv
      have f4 : (fw_row (fw_st M (B + 492) 4 (nI v)) (B + 493) (cpN i (H v) (mS B M))).1 (B + 492) 4 = nI v := by rw [row_n (by omega), st_s]
      refine ⟨60, And.intro (fun h1 => ?_) (fun h1 => ?_)⟩
      · have h1 : nI 517 ≤ nI i := h1
        rw [n_ge (by decide) (by omega)] at h1
        have ei : i = 517 := by omega
        subst ei
        refine And.intro kd_492 (And.intro kd_492 (And.intro rfl ?_))
        have e : opUndo (mS B M, v + 1, H, tl, tx) = (0, nI v, (H v, v, H, tl, tx)) := by unfold opUndo; rw [if_neg (by show ¬ v + 1 = 0; omega)]; rfl
        show Q (some (.int ((fw_row (fw_st M (B + 492) 4 (nI v)) (B + 493) (cpN 517 (H v) (mS B M))).1 (B + 492) 4))) (fw_st (fw_row (fw_st M (B + 492) 4 (nI v)) (B + 493) (cpN 517 (H v) (mS B M))) (B + 492) 7 0)
        rw [f4]
        refine ctM_yes e ?_ (Fr_tr Fr_st (Fr_row (by decide) (by decide))) h
        obtain ⟨g1, g2, g3, g4, g5, g6, g7⟩ := hR
        obtain ⟨_, _, _, _, hv0⟩ := hG.2 v (Nat.lt_succ_self v)
        refine ⟨?_, f4, by show v ≤ 4; omega, fun i hi k hk => ?_, ?_, g6, fun k hk => ?_⟩
        · rw [row_1]
          funext k
          unfold cpN
          by_cases g : k < 517
          · rw [if_pos g]
          · rw [if_neg g, hz0 k (by omega)]
            exact (hv0 k (by omega)).symm
        · rw [row_n (by omega), st_o (by omega)]
          exact g4 i (by have hi : i < v := hi; show i < v + 1; omega) k hk
        · rw [row_n (by omega), st_n (by decide)]; exact g5
        · rw [row_n (by omega), st_o (by omega)]; exact g7 k hk
      · have h1 : ¬ nI 517 ≤ nI i := h1
        rw [n_ge (by decide) (by omega)] at h1
        have e9 : (517 : Int32) * (fw_row (fw_st M (B + 492) 4 (nI v)) (B + 493) (cpN i (H v) (mS B M))).1 (B + 492) 4 + nI i = nI (517 * v + i) := by
          rw [f4, show (517 : Int32) = nI 517 from rfl, n_mul, n_add]
        refine And.intro kd_492 (And.intro kd_492 (And.intro kd_492 (And.intro kd_494 (And.intro ?_ (And.intro kd_493 (And.intro (vn_493 (by omega)) ?_))))))
        · show fw_sd (vp_in ((517 : Int32) * (fw_row (fw_st M (B + 492) 4 (nI v)) (B + 493) (cpN i (H v) (mS B M))).1 (B + 492) 4 + nI i) (fw_len B (B + 494)))
          rw [ln_494, e9]; exact vn_i (by omega) (by decide)
        refine Exists.intro (517 - (i + 1)) (And.intro (by omega) (Exists.intro (i + 1) (Exists.intro v ⟨rfl, rfl, by omega, ?_, rfl, ?_⟩)))
        · show [some (Value.ref (B + 492)), some (Value.int (nI i + 1))] = _
          rw [nI_1]
        · show fw_st (fw_row (fw_st M (B + 492) 4 (nI v)) (B + 493) (cpN i (H v) (mS B M))) (B + 493) (nI i).toNatClampNeg ((fw_row (fw_st M (B + 492) 4 (nI v)) (B + 493) (cpN i (H v) (mS B M))).1 (B + 494) ((517 : Int32) * (fw_row (fw_st M (B + 492) 4 (nI v)) (B + 493) (cpN i (H v) (mS B M))).1 (B + 492) 4 + nI i).toNatClampNeg) = _
          rw [e9, n_cl (by omega), n_cl (by omega), row_n (by omega), st_o (by omega), hp v (Nat.lt_succ_self v) i (by omega), st_row, row_1, row_row, cpN_s]
  · exact h.elim
end WR4
end
section
/-! THE TEXT AND THE DIGEST: what they answer -/
section PD
/-- one item from a on: whether, where it goes on or is wrong, the row behind it -/
def iO (tl : Nat) (tx : Nat → Int32) (a : Nat) : Int32 := nbN tx a (dgN tl tx a 2)
def iA (tl : Nat) (tx : Nat → Int32) (a : Nat) : Bool × Nat := numb tl tx a 2 0 15 (-1) 44
def iB (tl : Nat) (tx : Nat → Int32) (a : Nat) : Bool × Nat := numb tl tx (iA tl tx a).2 2 0 15 (iO tl tx a) 44
def iC (tl : Nat) (tx : Nat → Int32) (a : Nat) : Bool × Nat := numb tl tx (iB tl tx a).2 3 1 999 (-1) 44
def iD (tl : Nat) (tx : Nat → Int32) (a : Nat) : Bool × Nat := numb tl tx (iC tl tx a).2 4 0 1000 (-1) 59
def iG (tl : Nat) (tx : Nat → Int32) (a : Nat) : Int32 := nbN tx (iA tl tx a).2 (dgN tl tx (iA tl tx a).2 2)
def iK (tl : Nat) (tx : Nat → Int32) (a : Nat) : Int32 := nbN tx (iB tl tx a).2 (dgN tl tx (iB tl tx a).2 3)
def iT (tl : Nat) (tx : Nat → Int32) (a : Nat) : Int32 := nbN tx (iC tl tx a).2 (dgN tl tx (iC tl tx a).2 4)
def item (tl : Nat) (tx : Nat → Int32) (a : Nat) : Bool × Nat :=
  if (iA tl tx a).1 = false then iA tl tx a else if (iB tl tx a).1 = false then iB tl tx a else if (iC tl tx a).1 = false then iC tl tx a else iD tl tx a
def comI (S : Sx) (tl : Nat) (tx : Nat → Int32) (a : Nat) : Sx := comS S (iO tl tx a) (iG tl tx a) (iK tl tx a) (iT tl tx a)
/-- all items from a on: whether, where it is wrong, the row behind them -/
def prN (tl : Nat) (tx : Nat → Int32) : Nat → Sx → Nat → Bool × Nat × Sx
  | 0, S, a => (true, a, S)
  | n + 1, S, a => if a < tl then (if S 3 = 24 then (false, a, S) else if (item tl tx a).1 = true then prN tl tx n (comI S tl tx a) (item tl tx a).2 else (false, (item tl tx a).2, S)) else (true, a, S)
def opParse : Op := fun Z => if (prN Z.2.2.2.1 Z.2.2.2.2 151 Z.1 0).1 = true then (0, (prN Z.2.2.2.1 Z.2.2.2.2 151 Z.1 0).2.2 3, phZ Z (prN Z.2.2.2.1 Z.2.2.2.2 151 Z.1 0).2.2) else (0, -10 - nI (prN Z.2.2.2.1 Z.2.2.2.2 151 Z.1 0).2.1, Z)
/-! the digest -/
def mixh (h : Int64) (v : Int32) : Int64 := 31 * h + v.toInt64
def mixN (h : Int64) (f : Nat → Int32) : Nat → Int64
  | 0 => h
  | n + 1 => mixh (mixN h f n) (f n)
def dgC (S : Sx) (h : Int64) : Nat → Int64
  | 0 => h
  | c + 1 => mixN (dgC S h c) (fun w => crS S c w) 6
def dgL (S : Sx) (p : Nat) (h : Int64) : Nat → Int64
  | 0 => h
  | c + 1 => mixh (mixh (dgL S p h c) (sP S p (8 + c))) (sP S p (14 + c))
def dgP (S : Sx) (h : Int64) : Nat → Int64
  | 0 => h
  | p + 1 => dgL S p (mixN (dgP S h p) (fun w => paS S p w) 9) (cn S)
def dg1 (Z : Zs) : Int64 := mixN (mixh 3313 (nI Z.2.2.2.1)) (valS Z.1) 11
def dgst (Z : Zs) : Int64 := mixh (dgP Z.1 (dgC Z.1 (dg1 Z) (cn Z.1)) (pn Z.1)) (nI Z.2.1)
/-! how far: bounds -/
theorem dgN_le {tl : Nat} {tx : Nat → Int32} : ∀ d a, dgN tl tx a d ≤ d := by
  intro d
  induction d with
  | zero => intro a; exact Nat.le_refl 0
  | succ d ih =>
    intro a
    unfold dgN
    split
    · have := ih (a + 1); omega
    · omega
theorem dgN_tl {tl : Nat} {tx : Nat → Int32} : ∀ d a, a ≤ tl → a + dgN tl tx a d ≤ tl := by
  intro d
  induction d with
  | zero => intro a h; exact h
  | succ d ih =>
    intro a h
    unfold dgN
    split
    · rename_i e; have := ih (a + 1) (by omega); omega
    · exact h
theorem numb_tl {tl : Nat} {tx : Nat → Int32} {a d : Nat} {lo hi no sg : Int32} (h : a ≤ tl) : (numb tl tx a d lo hi no sg).2 ≤ tl := by
  have := dgN_tl (tl := tl) (tx := tx) d a h
  unfold numb
  split
  · exact h
  · split
    · exact this
    · split
      · exact h
      · split
        · rename_i e; show a + dgN tl tx a d + 1 ≤ tl; omega
        · exact this
theorem numb_ok {tl : Nat} {tx : Nat → Int32} {a d : Nat} {lo hi no sg : Int32} (h : (numb tl tx a d lo hi no sg).1 = true) : a < (numb tl tx a d lo hi no sg).2 ∧ okN (nbN tx a (dgN tl tx a d)) lo hi = true ∧ nbN tx a (dgN tl tx a d) ≠ no := by
  unfold numb at h ⊢
  split at h
  · cases h
  · rename_i h1
    rw [if_neg h1]
    split at h
    · cases h
    · rename_i h2
      rw [if_neg h2]
      split at h
      · cases h
      · rename_i h3
        rw [if_neg h3]
        split at h
        · rename_i h4
          rw [if_pos h4]
          refine ⟨by show a < a + dgN tl tx a d + 1; omega, ?_, fun e => h3 (Or.inr e)⟩
          cases e : okN (nbN tx a (dgN tl tx a d)) lo hi with
          | true => rfl
          | false => exact absurd (Or.inl e) h3
        · cases h
theorem item_tl {tl : Nat} {tx : Nat → Int32} {a : Nat} (h : a ≤ tl) : (iA tl tx a).2 ≤ tl ∧ (iB tl tx a).2 ≤ tl ∧ (iC tl tx a).2 ≤ tl ∧ (iD tl tx a).2 ≤ tl := by
  have h1 : (iA tl tx a).2 ≤ tl := numb_tl h
  have h2 : (iB tl tx a).2 ≤ tl := numb_tl h1
  have h3 : (iC tl tx a).2 ≤ tl := numb_tl h2
  exact ⟨h1, h2, h3, numb_tl h3⟩
theorem item_ok {tl : Nat} {tx : Nat → Int32} {a : Nat} (h : (item tl tx a).1 = true) : (iA tl tx a).1 = true ∧ (iB tl tx a).1 = true ∧ (iC tl tx a).1 = true ∧ (iD tl tx a).1 = true ∧ item tl tx a = iD tl tx a := by
  unfold item at h ⊢
  split at h
  · rename_i e; rw [e] at h; cases h
  · rename_i e1
    split at h
    · rename_i e; rw [e] at h; cases h
    · rename_i e2
      split at h
      · rename_i e; rw [e] at h; cases h
      · rename_i e3
        refine ⟨?_, ?_, ?_, h, by rw [if_neg e1, if_neg e2, if_neg e3]⟩
        · cases e : (iA tl tx a).1 <;> simp_all
        · cases e : (iB tl tx a).1 <;> simp_all
        · cases e : (iC tl tx a).1 <;> simp_all
theorem item_gt {tl : Nat} {tx : Nat → Int32} {a : Nat} (h : (item tl tx a).1 = true) : a < (item tl tx a).2 := by
  obtain ⟨h1, h2, h3, h4, e⟩ := item_ok h
  rw [e]
  have a1 : a < (iA tl tx a).2 := (numb_ok h1).1
  have a2 : (iA tl tx a).2 < (iB tl tx a).2 := (numb_ok h2).1
  have a3 : (iB tl tx a).2 < (iC tl tx a).2 := (numb_ok h3).1
  have a4 : (iC tl tx a).2 < (iD tl tx a).2 := (numb_ok h4).1
  omega
theorem item_le {tl : Nat} {tx : Nat → Int32} {a : Nat} (h : a ≤ tl) : (item tl tx a).2 ≤ tl := by
  obtain ⟨h1, h2, h3, h4⟩ := item_tl (tx := tx) h
  unfold item
  split
  · exact h1
  · split
    · exact h2
    · split
      · exact h3
      · exact h4
/-- what an item gives fits a parcel -/
theorem item_fit {tl : Nat} {tx : Nat → Int32} {a : Nat} (h : (item tl tx a).1 = true) : ∃ o g k t, iO tl tx a = nI o ∧ iG tl tx a = nI g ∧ iK tl tx a = nI k ∧ iT tl tx a = nI t ∧ o < 16 ∧ g < 16 ∧ o ≠ g ∧ 1 ≤ k ∧ k ≤ 999 ∧ t ≤ 1000 := by
  obtain ⟨h1, h2, h3, h4, -⟩ := item_ok h
  obtain ⟨-, a1, -⟩ := numb_ok h1
  obtain ⟨-, a2, b2⟩ := numb_ok h2
  obtain ⟨-, a3, -⟩ := numb_ok h3
  obtain ⟨-, a4, -⟩ := numb_ok h4
  obtain ⟨o, -, ho, eo, -⟩ := ok_n (a := 0) (b := 15) (by decide) (by decide) a1
  obtain ⟨g, -, hg, eg, -⟩ := ok_n (a := 0) (b := 15) (by decide) (by decide) a2
  obtain ⟨k, hk, hk2, ek, -⟩ := ok_n (a := 1) (b := 999) (by decide) (by decide) a3
  obtain ⟨t, -, ht, et, -⟩ := ok_n (a := 0) (b := 1000) (by decide) (by decide) a4
  refine ⟨o, g, k, t, eo, eg, ek, et, by omega, by omega, fun e => b2 ?_, hk, hk2, ht⟩
  rw [eg, ← e]
  exact eo.symm
theorem WF_comI {b tl : Nat} {S : Sx} {tx : Nat → Int32} {a : Nat} (h : WF b S) (hp : pn S < 24) (hi : (item tl tx a).1 = true) : WF b (comI S tl tx a) := by
  obtain ⟨o, g, k, t, e1, e2, e3, e4, h1, h2, h3, h4, h5, h6⟩ := item_fit hi
  unfold comI
  rw [e1, e2, e3, e4]
  exact WF_com h hp h1 h2 h3 h4 h5 h6
theorem prN_up {b tl : Nat} {tx : Nat → Int32} : ∀ n S a, WF b S → WF b (prN tl tx n S a).2.2 ∧ (∀ k, 517 ≤ k → (prN tl tx n S a).2.2 k = S k) ∧ (prN tl tx n S a).2.2 0 = S 0 := by
  intro n
  induction n with
  | zero => intro S a h; exact ⟨h, fun _ _ => rfl, rfl⟩
  | succ n ih =>
    intro S a h
    unfold prN
    split
    · split
      · exact ⟨h, fun _ _ => rfl, rfl⟩
      · rename_i h3
        have hp : pn S < 24 := by
          rcases Nat.lt_or_ge (pn S) 24 with z | z
          · exact z
          · exact absurd (by rw [h.2.2.1, show pn S = 24 by have := h.2.2.2.1; omega]; rfl) h3
        split
        · rename_i hi
          obtain ⟨i1, i2, i3⟩ := ih (comI S tl tx a) (item tl tx a).2 (WF_comI h hp hi)
          refine ⟨i1, fun k hk => ?_, ?_⟩
          · rw [i2 k hk]; exact com_hi hp hk
          · rw [i3]; exact com_lo (by decide) (by decide)
        · exact ⟨h, fun _ _ => rfl, rfl⟩
    · exact ⟨h, fun _ _ => rfl, rfl⟩
end PD
end
section
/-! WHAT THE REFERENCE'S METHODS DO (the text, the digest) -/
section CN3
theorem stl_stl {M : fw_M} {j : Nat} {x y : Int64} : fw_stl (fw_stl M j x) j y = fw_stl M j y := by
  unfold fw_stl
  refine congrArg (fun f => (M.1, f, M.2.2)) (funext fun k => ?_)
  show vp_updL (vp_updL M.2.1 j x) j y k = vp_updL M.2.1 j y k
  unfold vp_updL
  by_cases h : k = j
  · rw [if_pos h, if_pos h]
  · rw [if_neg h, if_neg h, if_neg h]
theorem stl_s {M : fw_M} {j : Nat} {x : Int64} : (fw_stl M j x).2.1 j = x := by
  show vp_updL M.2.1 j x j = x
  unfold vp_updL
  rw [if_pos rfl]
/-- the text of the reference, and where it reads -/
def TX (B : Nat) (M : fw_M) (tl p : Nat) (tx : Nat → Int32) : Prop := M.1 (B + 497) = tx ∧ M.1 (B + 492) 6 = nI tl ∧ tl ≤ 150 ∧ M.1 (B + 492) 8 = nI p ∧ p ≤ tl
/-- the number and the place written -/
abbrev tN (B : Nat) (M : fw_M) (v : Int32) (p : Nat) : fw_M := fw_st (fw_st M (B + 492) 9 v) (B + 492) 8 (nI p)
def ct_X6_isAt (B : Nat) : fw_CTX := fun as M Q _ => match as with
  | [.ref a, .int x, .int y] => a = B + 492 ∧ ∃ tl p tx, TX B M tl p tx ∧ Q (some (.int (bi (decide (p < tl) && okN (tx p) x y)))) M
  | _ => False
def ct_X6_isNumber (B : Nat) : fw_CTX := fun as M Q _ => match as with
  | [.ref a, .int x, .int lo, .int hi, .int no, .int sg] => a = B + 492 ∧ ∃ tl p tx d, TX B M tl p tx ∧ d ≤ 4 ∧ x = nI d ∧ Q (some (.int (bi (numb tl tx p d lo hi no sg).1))) (tN B M (nbN tx p (dgN tl tx p d)) (numb tl tx p d lo hi no sg).2)
  | _ => False
def ct_X6_isItem (B : Nat) : fw_CTX := fun as M Q _ => match as with
  | [.ref a] => a = B + 492 ∧ ∃ b tl p tx, TX B M tl p tx ∧ WF b (mS B M) ∧
      (mS B M 3 = 24 → Q (some (.int 0)) M) ∧
      (mS B M 3 ≠ 24 → (item tl tx p).1 = false → ∀ v, Q (some (.int 0)) (tN B M v (item tl tx p).2)) ∧
      (mS B M 3 ≠ 24 → (item tl tx p).1 = true → ∀ v, Q (some (.int 1)) (mK B (tN B M v (item tl tx p).2) (comI (mS B M) tl tx p)))
  | _ => False
def ct_X6_parse (B : Nat) : fw_CTX := fun as M Q _ => match as with
  | [.ref a] => a = B + 492 ∧ ∃ Z, RM B M Z ∧ GZ Z ∧ ∀ M', RM B M' (opParse Z).2.2 → Fr B M M' → Q (some (.int (opParse Z).2.1)) M'
  | _ => False
def ct_X6_mix (B : Nat) : fw_CTX := fun as M Q _ => match as with
  | [.ref a, .int v] => a = B + 492 ∧ Q none (fw_stl M 0 (mixh (M.2.1 0) v))
  | _ => False
def ct_X6_digest (B : Nat) : fw_CTX := fun as M Q _ => match as with
  | [.ref a] => a = B + 492 ∧ ∃ Z, RM B M Z ∧ GZ Z ∧ ∀ M', RM B M' Z → Fr B M M' → Q (some (.long (dgst Z))) M'
  | _ => False
end CN3
end
section
/-! the callees of each method (printed by program) -/
def cal_X6_isAt (B : Nat) : List fw_Cal := [(40, 1, 0, 3, 0, fun as M Q => ct_X6_in B as M Q (fun _ _ => False))]
def cal_X6_isNumber (B : Nat) : List fw_Cal := [(177, 0, 6, 3, 0, fun as M Q => ct_X6_isAt B as M Q (fun _ _ => False)),
  (40, 1, 0, 3, 0, fun as M Q => ct_X6_in B as M Q (fun _ _ => False))]
def cal_X6_isItem (B : Nat) : List fw_Cal := [(180, 0, 6, 6, 0, fun as M Q => ct_X6_isNumber B as M Q (fun _ _ => False)),
  (120, 0, 6, 5, 0, fun as M Q => ct_X6_comes B as M Q (fun _ _ => False))]
def cal_X6_parse (B : Nat) : List fw_Cal := [(111, 0, 6, 1, 0, fun as M Q => ct_X6_hold B as M Q (fun _ _ => False)),
  (184, 0, 6, 1, 0, fun as M Q => ct_X6_isItem B as M Q (fun _ _ => False)),
  (29, 1, 0, 2, 0, fun as M Q => ct_X6_copies B as M Q (fun _ _ => False)),
  (114, 0, 6, 2, 0, fun as M Q => ct_X6_ends B as M Q (fun _ _ => False))]
def cal_X6_mix (B : Nat) : List fw_Cal := []
def cal_X6_digest (B : Nat) : List fw_Cal := [(195, 0, 6, 2, 0, fun as M Q => ct_X6_mix B as M Q (fun _ _ => False)),
  (133, 0, 6, 2, 0, fun as M Q => ct_X6_valueOf B as M Q (fun _ _ => False)),
  (136, 0, 6, 3, 0, fun as M Q => ct_X6_courierOf B as M Q (fun _ _ => False)),
  (142, 0, 6, 3, 0, fun as M Q => ct_X6_parcelOf B as M Q (fun _ _ => False)),
  (52, 0, 6, 3, 0, fun as M Q => ct_X6_its B as M Q (fun _ _ => False))]
end
section
/-! THE REFERENCE'S METHODS WALKED: the text, the digest -/
section WR5
theorem okN_eq {x s : Int32} : okN x s s = true ↔ x = s := by
  unfold okN
  simp only [Bool.and_eq_true, decide_eq_true_eq]
  exact ⟨fun h => Int32.le_antisymm h.2 h.1, fun h => by subst h; exact ⟨Int32.le_refl _, Int32.le_refl _⟩⟩
theorem tN_tN {B : Nat} {M : fw_M} {v v' : Int32} {p p' : Nat} : tN B (tN B M v p) v' p' = tN B M v' p' := by
  show fw_st (fw_st (fw_st (fw_st M _ _ _) _ _ _) _ _ _) _ _ _ = fw_st (fw_st M _ _ _) _ _ _
  rw [st_row, st_row, st_row, st_row, st_row, row_1, row_1, row_1, row_row, row_row, row_row, st_row, row_1, row_row]
  refine congrArg (fw_row M (B + 492)) (funext fun k => ?_)
  by_cases h8 : k = 8
  · subst h8; rw [upd_s, upd_s]
  · rw [upd_n h8, upd_n h8]
    by_cases h9 : k = 9
    · subst h9; rw [upd_s, upd_s]
    · rw [upd_n h9, upd_n h9, upd_n h8, upd_n h9]
theorem tN_o {B b : Nat} {M : fw_M} {v : Int32} {p : Nat} (h : b ≠ B + 492) : (tN B M v p).1 b = M.1 b := by
  rw [st_o h, st_o h]
theorem tN_n {B k : Nat} {M : fw_M} {v : Int32} {p : Nat} (h8 : k ≠ 8) (h9 : k ≠ 9) : (tN B M v p).1 (B + 492) k = M.1 (B + 492) k := by
  rw [st_n h8, st_n h9]
theorem tN_8 {B : Nat} {M : fw_M} {v : Int32} {p : Nat} : (tN B M v p).1 (B + 492) 8 = nI p := st_s
theorem tN_9 {B : Nat} {M : fw_M} {v : Int32} {p : Nat} : (tN B M v p).1 (B + 492) 9 = v := by rw [st_n (by decide), st_s]
theorem tN_K {B : Nat} {M : fw_M} {S : Sx} {v : Int32} {p : Nat} : tN B (mK B M S) v p = mK B (tN B M v p) S := by
  show fw_st (fw_st (fw_row M _ _) _ _ _) _ _ _ = fw_row (fw_st (fw_st M _ _ _) _ _ _) _ _
  rw [st_row, st_row, st_row, st_row, row_1, row_1, row_row, row_row, row_n (by omega), row_comm (by omega)]
theorem tN_id {B : Nat} {M : fw_M} {p : Nat} : tN B M (M.1 (B + 492) 9) p = fw_st M (B + 492) 8 (nI p) := by
  show fw_st (fw_st M _ _ _) _ _ _ = _
  rw [show fw_st M (B + 492) 9 (M.1 (B + 492) 9) = M from by rw [st_row, upd_self, row_self]]
theorem dgN_s {tl : Nat} {tx : Nat → Int32} {a d : Nat} : dgN tl tx a (d + 1) = if a < tl ∧ okN (tx a) 48 57 = true then dgN tl tx (a + 1) d + 1 else 0 := rfl
theorem tN_st {B : Nat} {M : fw_M} {v : Int32} {a b : Nat} : fw_st (tN B M v a) (B + 492) 8 (nI b) = tN B M v b := by
  show fw_st (fw_st _ _ _ _) _ _ _ = fw_st _ _ _ _
  rw [st_row (M := fw_st (fw_st M (B + 492) 9 v) (B + 492) 8 (nI a)), st_row (M := fw_st M (B + 492) 9 v), row_1, row_row, upd_upd]
  rfl
theorem TX_tN {B tl p p' : Nat} {M : fw_M} {v : Int32} {tx : Nat → Int32} (h : TX B M tl p tx) (hp : p' ≤ tl) : TX B (tN B M v p') tl p' tx := by
  obtain ⟨h1, h2, h3, h4, h5⟩ := h
  exact ⟨by rw [tN_o (by omega)]; exact h1, by rw [tN_n (by decide) (by decide)]; exact h2, h3, tN_8, hp⟩
set_option maxRecDepth 100000 in
theorem wk_X6_isAt (B : Nat) : fw_Wk B fl_X6 (cal_X6_isAt B) [] cst_X6 (some .boolean) kX6_isAt 3 (ct_X6_isAt B) := by
  intro as M Q QX h
  unfold ct_X6_isAt at h
  split at h
  · rename_i a x y
    obtain ⟨rfl, tl, p, tx, ⟨e1, e2, h3, e4, h5⟩, h⟩ := h
    refine ⟨rfl, [], ⟨60, And.intro kd_492 (And.intro kd_492 (And.intro (fun h1 => ?_) (fun h1 => ?_)))⟩, nofun⟩
    · have h1 : M.1 (B + 492) 6 ≤ M.1 (B + 492) 8 := h1
      rw [e2, e4, n_ge (by omega) (by omega)] at h1
      rw [decide_eq_false (by omega : ¬ p < tl)] at h
      exact And.intro (Or.inl rfl) h
    · have h1 : ¬ M.1 (B + 492) 6 ≤ M.1 (B + 492) 8 := h1
      rw [e2, e4, n_ge (by omega) (by omega)] at h1
      rw [decide_eq_true (by omega : p < tl), Bool.true_and] at h
      have ex : M.1 (B + 497) (M.1 (B + 492) 8).toNatClampNeg = tx p := by rw [e4, n_cl (by omega), e1]
      refine And.intro kd_492 (And.intro kd_492 (And.intro kd_497 (And.intro ?_ (And.intro (fun h2 => ?_) (fun h2 => ?_)))))
      · show fw_sd (vp_in (M.1 (B + 492) 8) (fw_len B (B + 497)))
        rw [e4, ln_497]; exact vn_i (by omega) (by decide)
      · have h2 : okN (M.1 (B + 497) (M.1 (B + 492) 8).toNatClampNeg) x y = false := bi_0.mp h2
        rw [ex] at h2
        rw [h2] at h
        exact And.intro (Or.inl rfl) h
      · have h2 : okN (M.1 (B + 497) (M.1 (B + 492) 8).toNatClampNeg) x y = true := bi_n0.mp h2
        rw [ex] at h2
        rw [h2] at h
        exact And.intro (Or.inr rfl) h
  · exact h.elim
set_option maxRecDepth 100000 in
theorem wk_X6_isNumber (B : Nat) : fw_Wk B fl_X6 (cal_X6_isNumber B) [] cst_X6 (some .boolean) kX6_isNumber 8 (ct_X6_isNumber B) := by
  intro as M Q QX h
  unfold ct_X6_isNumber at h
  split at h
  · rename_i a x lo hi no sg
    obtain ⟨rfl, tl, p, tx, d, hT, hd, rfl, h⟩ := h
    have hp5 := hT.2.2.2.2
    have htl := hT.2.2.1
    have hL := dgN_tl (tl := tl) (tx := tx) d p hp5
    refine ⟨rfl, [(11, [true, true, true, true, true, true, true, false], fun m ls st M' => ∃ i, m = d - i + 1 ∧ i ≤ d ∧ p + i ≤ tl ∧ dgN tl tx p d = i + dgN tl tx (p + i) (d - i) ∧ ls = [some (.ref (B + 492)), some (.int (nI d)), some (.int lo), some (.int hi), some (.int no), some (.int sg), some (.int (nI p)), none] ∧ st = [] ∧ M' = tN B M (nbN tx p i) (p + i)),
      (70, [true, true, true, true, true, true, true, false], fun m ls st M' => ∃ i, m = 0 ∧ p + i ≤ tl ∧ dgN tl tx p d = i ∧ ls = [some (.ref (B + 492)), some (.int (nI d)), some (.int lo), some (.int hi), some (.int no), some (.int sg), some (.int (nI p)), none] ∧ st = [] ∧ M' = tN B M (nbN tx p i) (p + i))], ⟨60, ?_⟩, ?_⟩
    · refine And.intro kd_492 (And.intro kd_492 (Exists.intro (d + 1) (Exists.intro 0 ⟨rfl, by omega, by omega, by rw [Nat.zero_add]; rfl, ?_, rfl, ?_⟩)))
      · show [some (Value.ref (B + 492)), some (Value.int (nI d)), some (Value.int lo), some (Value.int hi), some (Value.int no), some (Value.int sg), some (Value.int (M.1 (B + 492) 8)), none] = _
        rw [hT.2.2.2.1]
      · show fw_st M (B + 492) 9 0 = fw_st (fw_st M (B + 492) 9 0) (B + 492) 8 (nI p)
        rw [show fw_st (fw_st M (B + 492) 9 0) (B + 492) 8 (nI p) = fw_st (fw_st M (B + 492) 9 0) (B + 492) 8 ((fw_st M (B + 492) 9 0).1 (B + 492) 8) from by rw [st_n (by decide), hT.2.2.2.1], st_row (M := fw_st M (B + 492) 9 0), upd_self, row_self]
    · intro q hq m ls st M' hi'
      simp only [List.mem_cons, List.not_mem_nil, or_false] at hq
      rcases hq with rfl | rfl
      · obtain ⟨i, rfl, hi, hpi, hg, rfl, rfl, rfl⟩ := hi'
        have hT1 : TX B (tN B M (nbN tx p i) (p + i)) tl (p + i) tx := TX_tN hT hpi
        have f1 := hT1.1
        have f9 : (tN B M (nbN tx p i) (p + i)).1 (B + 492) 9 = nbN tx p i := tN_9
        have f8 : (tN B M (nbN tx p i) (p + i)).1 (B + 492) 8 = nI (p + i) := tN_8
        have es : (tN B M (nbN tx p i) (p + i)).1 (B + 492) 8 - nI p = nI i := by rw [f8, pk_sub (by omega), Nat.add_sub_cancel_left]
        refine ⟨200, And.intro kd_492 (And.intro (fun h1 => ?_) (fun h1 => ?_))⟩
        · have h1 : nI d ≤ (tN B M (nbN tx p i) (p + i)).1 (B + 492) 8 - nI p := h1
          rw [es, n_ge (by omega) (by omega)] at h1
          have ei : i = d := by omega
          subst ei
          refine Exists.intro 0 (And.intro (by omega) (Exists.intro i ⟨rfl, hpi, ?_, rfl, rfl, rfl⟩))
          rw [hg, Nat.sub_self]; rfl
        · have h1 : ¬ nI d ≤ (tN B M (nbN tx p i) (p + i)).1 (B + 492) 8 - nI p := h1
          rw [es, n_ge (by omega) (by omega)] at h1
          obtain ⟨r, hr⟩ : ∃ r, d - i = r + 1 := ⟨d - i - 1, by omega⟩
          rw [hr, dgN_s] at hg
          refine And.intro kd_492 (And.intro rfl (Exists.intro tl (Exists.intro (p + i) (Exists.intro tx (And.intro hT1 (And.intro (fun h2 => ?_) (fun h2 => ?_)))))))
          · have h2 := bi_0.mp h2
            refine Exists.intro 0 (And.intro (by omega) (Exists.intro i ⟨rfl, hpi, ?_, rfl, rfl, rfl⟩))
            rw [hg, if_neg ?_]
            · rfl
            · intro z
              have h2 : (decide (p + i < tl) && okN (tx (p + i)) 48 57) = false := h2
              rw [decide_eq_true z.1, z.2] at h2
              exact absurd h2 (by decide)
          · have h2 : (decide (p + i < tl) && okN (tx (p + i)) 48 57) = true := bi_n0.mp h2
            simp only [Bool.and_eq_true, decide_eq_true_eq] at h2
            rw [if_pos h2] at hg
            refine And.intro kd_492 (And.intro kd_492 (And.intro kd_492 (And.intro kd_497 (And.intro ?_ (And.intro kd_492 (And.intro kd_492 (And.intro kd_492 ?_)))))))
            · show fw_sd (vp_in ((tN B M (nbN tx p i) (p + i)).1 (B + 492) 8) (fw_len B (B + 497)))
              rw [f8, ln_497]; exact vn_i (by omega) (by decide)
            refine Exists.intro (d - (i + 1) + 1) (And.intro (by omega) (Exists.intro (i + 1) ⟨rfl, by omega, by omega, ?_, rfl, rfl, ?_⟩))
            · rw [hg, show d - (i + 1) = r by omega, show p + (i + 1) = p + i + 1 by omega]; omega
            · show fw_st (fw_st (tN B M (nbN tx p i) (p + i)) (B + 492) 9 (10 * (tN B M (nbN tx p i) (p + i)).1 (B + 492) 9 + (tN B M (nbN tx p i) (p + i)).1 (B + 497) ((tN B M (nbN tx p i) (p + i)).1 (B + 492) 8).toNatClampNeg - 48)) (B + 492) 8 ((fw_st (tN B M (nbN tx p i) (p + i)) (B + 492) 9 (10 * (tN B M (nbN tx p i) (p + i)).1 (B + 492) 9 + (tN B M (nbN tx p i) (p + i)).1 (B + 497) ((tN B M (nbN tx p i) (p + i)).1 (B + 492) 8).toNatClampNeg - 48)).1 (B + 492) 8 + 1) = _
              have e : (10 : Int32) * (tN B M (nbN tx p i) (p + i)).1 (B + 492) 9 + (tN B M (nbN tx p i) (p + i)).1 (B + 497) ((tN B M (nbN tx p i) (p + i)).1 (B + 492) 8).toNatClampNeg - 48 = nbN tx p (i + 1) := by rw [f9, f8, f1, n_cl (by omega)]; rfl
              rw [e, st_n (M := tN B M (nbN tx p i) (p + i)) (by decide), f8, nI_1]
              exact tN_tN (v' := nbN tx p (i + 1)) (p' := p + i + 1)
      · obtain ⟨i, rfl, hpi, hg, rfl, rfl, rfl⟩ := hi'
        have hT1 : TX B (tN B M (nbN tx p i) (p + i)) tl (p + i) tx := TX_tN hT hpi
        have f9 : (tN B M (nbN tx p i) (p + i)).1 (B + 492) 9 = nbN tx p i := tN_9
        have f8 : (tN B M (nbN tx p i) (p + i)).1 (B + 492) 8 = nI (p + i) := tN_8
        unfold numb at h
        rw [hg] at h
        have back : fw_st (tN B M (nbN tx p i) (p + i)) (B + 492) 8 (nI p) = tN B M (nbN tx p i) p := by
          show fw_st (fw_st _ _ _ _) _ _ _ = fw_st _ _ _ _
          rw [st_row (M := fw_st (fw_st M (B + 492) 9 (nbN tx p i)) (B + 492) 8 (nI (p + i))), st_row (M := fw_st M (B + 492) 9 (nbN tx p i)), row_1, row_row, upd_upd]
          rfl
        refine ⟨200, And.intro kd_492 (And.intro (fun h1 => ?_) (fun h1 => ?_))⟩
        · have h1 : (tN B M (nbN tx p i) (p + i)).1 (B + 492) 8 = nI p := h1
          rw [f8, nI_eq (by omega) (by omega)] at h1
          have ei : i = 0 := by omega
          rw [if_pos ei] at h
          subst ei
          exact And.intro (Or.inl rfl) h
        · have h1 : ¬ (tN B M (nbN tx p i) (p + i)).1 (B + 492) 8 = nI p := h1
          rw [f8, nI_eq (by omega) (by omega)] at h1
          rw [if_neg (by omega : ¬ i = 0)] at h
          refine And.intro kd_492 (And.intro rfl (Exists.intro tl (Exists.intro (p + i) (Exists.intro tx (And.intro hT1 (And.intro (fun h2 => ?_) (fun h2 => ?_)))))))
          · have h2 : (decide (p + i < tl) && okN (tx (p + i)) 48 57) = false := bi_0.mp h2
            rw [if_neg (fun z => by rw [decide_eq_true z.1, z.2] at h2; exact absurd h2 (by decide))] at h
            refine And.intro kd_492 (And.intro (fun h3 => ?_) (fun h3 => ?_))
            · have h3 : okN ((tN B M (nbN tx p i) (p + i)).1 (B + 492) 9) lo hi = false := bi_0.mp h3
              rw [f9] at h3
              rw [if_pos (Or.inl h3)] at h
              refine And.intro kd_492 (And.intro (Or.inl rfl) ?_)
              rw [← back] at h
              exact h
            · have h3 : okN ((tN B M (nbN tx p i) (p + i)).1 (B + 492) 9) lo hi = true := bi_n0.mp h3
              rw [f9] at h3
              refine And.intro kd_492 (And.intro (fun h4 => ?_) (fun h4 => ?_))
              · have h4 : ¬ (tN B M (nbN tx p i) (p + i)).1 (B + 492) 9 = no := h4
                rw [f9] at h4
                rw [if_neg (fun z => z.elim (fun z => by rw [h3] at z; cases z) h4)] at h
                have fin : ∀ v : Int32, (if p + i < tl ∧ tx (p + i) = sg then (true, p + i + 1) else (false, p + i)) = (decide (p + i < tl) && okN (tx (p + i)) sg sg, p + i + (if (decide (p + i < tl) && okN (tx (p + i)) sg sg) = true then 1 else 0)) := fun _ => by
                  by_cases z : p + i < tl ∧ tx (p + i) = sg
                  · rw [if_pos z, decide_eq_true z.1, okN_eq.mpr z.2]; rfl
                  · rw [if_neg z]
                    have : (decide (p + i < tl) && okN (tx (p + i)) sg sg) = false := by
                      cases e : (decide (p + i < tl) && okN (tx (p + i)) sg sg) with
                      | false => rfl
                      | true =>
                        simp only [Bool.and_eq_true, decide_eq_true_eq] at e
                        exact absurd ⟨e.1, okN_eq.mp e.2⟩ z
                    rw [this]; rfl
                rw [fin 0] at h
                refine And.intro kd_492 (And.intro rfl (Exists.intro tl (Exists.intro (p + i) (Exists.intro tx (And.intro hT1 (And.intro kd_492 (And.intro (fun h5 => ?_) (fun h5 => ?_))))))))
                · have h5 : (decide (p + i < tl) && okN (tx (p + i)) sg sg) = false := bi_0.mp h5
                  refine And.intro kd_492 (And.intro bi_01 ?_)
                  show Q (some (.int (bi (decide (p + i < tl) && okN (tx (p + i)) sg sg)))) (fw_st (tN B M (nbN tx p i) (p + i)) (B + 492) 8 ((tN B M (nbN tx p i) (p + i)).1 (B + 492) 8 + nI 0))
                  rw [f8, n_add, tN_st]
                  rw [h5] at h ⊢
                  exact h
                · have h5 : (decide (p + i < tl) && okN (tx (p + i)) sg sg) = true := bi_n0.mp h5
                  refine And.intro kd_492 (And.intro bi_01 ?_)
                  show Q (some (.int (bi (decide (p + i < tl) && okN (tx (p + i)) sg sg)))) (fw_st (tN B M (nbN tx p i) (p + i)) (B + 492) 8 ((tN B M (nbN tx p i) (p + i)).1 (B + 492) 8 + nI 1))
                  rw [f8, n_add, tN_st]
                  rw [h5] at h ⊢
                  exact h
              · have h4 : (tN B M (nbN tx p i) (p + i)).1 (B + 492) 9 = no := h4
                rw [f9] at h4
                rw [if_pos (Or.inr h4)] at h
                refine And.intro kd_492 (And.intro (Or.inl rfl) ?_)
                rw [← back] at h
                exact h
          · have h2 : (decide (p + i < tl) && okN (tx (p + i)) 48 57) = true := bi_n0.mp h2
            simp only [Bool.and_eq_true, decide_eq_true_eq] at h2
            rw [if_pos h2] at h
            exact And.intro (Or.inl rfl) h
  · exact h.elim
set_option maxRecDepth 100000 in
theorem wk_X6_isItem (B : Nat) : fw_Wk B fl_X6 (cal_X6_isItem B) [] cst_X6 (some .boolean) kX6_isItem 4 (ct_X6_isItem B) := by
  intro as M Q QX h
  unfold ct_X6_isItem at h
  split at h
  · obtain ⟨rfl, b, tl, p, tx, hT, hW, h24, hno, hyes⟩ := h
    have hm : mS B M 3 = nI (pn (mS B M)) := hW.2.2.1
    have hm24 : pn (mS B M) ≤ 24 := hW.2.2.2.1
    obtain ⟨i1, i2, i3, i4⟩ := item_tl (tx := tx) hT.2.2.2.2
    refine ⟨rfl, [], ⟨400, And.intro kd_492 (And.intro kd_493 (And.intro (vn_493 (i := 3) (by decide)) (And.intro (fun h1 => ?_) (fun h1 => ?_))))⟩, nofun⟩
    · exact And.intro (Or.inl rfl) (h24 h1)
    · have h1 : mS B M 3 ≠ 24 := h1
      have hno := hno h1
      have hyes := hyes h1
      have hp : pn (mS B M) < 24 := by
        rcases Nat.lt_or_ge (pn (mS B M)) 24 with z | z
        · exact z
        · exact absurd (by rw [hm, show pn (mS B M) = 24 by omega]; rfl) h1
      have no1 : (iA tl tx p).1 = false → ∀ v, Q (some (.int 0)) (tN B M v (iA tl tx p).2) := fun g1 => by
        have e : item tl tx p = iA tl tx p := by unfold item; rw [if_pos g1]
        rw [e] at hno; exact hno g1
      have no2 : (iA tl tx p).1 = true → (iB tl tx p).1 = false → ∀ v, Q (some (.int 0)) (tN B M v (iB tl tx p).2) := fun g1 g2 => by
        have e : item tl tx p = iB tl tx p := by unfold item; rw [g1, if_neg (by decide), if_pos g2]
        rw [e] at hno; exact hno g2
      have no3 : (iA tl tx p).1 = true → (iB tl tx p).1 = true → (iC tl tx p).1 = false → ∀ v, Q (some (.int 0)) (tN B M v (iC tl tx p).2) := fun g1 g2 g3 => by
        have e : item tl tx p = iC tl tx p := by unfold item; rw [g1, if_neg (by decide), g2, if_neg (by decide), if_pos g3]
        rw [e] at hno; exact hno g3
      have e4 : (iA tl tx p).1 = true → (iB tl tx p).1 = true → (iC tl tx p).1 = true → item tl tx p = iD tl tx p := fun g1 g2 g3 => by
        unfold item; rw [g1, if_neg (by decide), g2, if_neg (by decide), g3, if_neg (by decide)]
      have T1 : TX B (tN B M (iO tl tx p) (iA tl tx p).2) tl (iA tl tx p).2 tx := TX_tN hT i1
      have n1 : (tN B M (iO tl tx p) (iA tl tx p).2).1 (B + 492) 9 = iO tl tx p := tN_9
      refine And.intro kd_492 (And.intro rfl (Exists.intro tl (Exists.intro p (Exists.intro tx (Exists.intro 2 (And.intro hT (And.intro (by decide) (And.intro rfl (And.intro (fun g1 => ?_) (fun g1 => And.intro (Or.inl rfl) (no1 (bi_0.mp g1) _)))))))))))
      have g1 : (iA tl tx p).1 = true := bi_n0.mp g1
      have eB : numb tl tx (iA tl tx p).2 2 0 15 ((tN B M (iO tl tx p) (iA tl tx p).2).1 (B + 492) 9) 44 = iB tl tx p := by rw [n1]; rfl
      have eM2 : tN B (tN B M (iO tl tx p) (iA tl tx p).2) (iG tl tx p) (numb tl tx (iA tl tx p).2 2 0 15 ((tN B M (iO tl tx p) (iA tl tx p).2).1 (B + 492) 9) 44).2 = tN B M (iG tl tx p) (iB tl tx p).2 := by rw [eB, tN_tN]
      refine And.intro kd_492 (And.intro kd_492 (And.intro rfl (Exists.intro tl (Exists.intro (iA tl tx p).2 (Exists.intro tx (Exists.intro 2 (And.intro T1 (And.intro (by decide) (And.intro rfl (And.intro (fun g2 => ?_) (fun g2 => And.intro (Or.inl rfl) ?_)))))))))))
      rotate_left
      · have g2 : (numb tl tx (iA tl tx p).2 2 0 15 ((tN B M (iO tl tx p) (iA tl tx p).2).1 (B + 492) 9) 44).1 = false := bi_0.mp g2
        rw [eB] at g2
        show Q (some (.int 0)) (tN B (tN B M (iO tl tx p) (iA tl tx p).2) (iG tl tx p) (numb tl tx (iA tl tx p).2 2 0 15 ((tN B M (iO tl tx p) (iA tl tx p).2).1 (B + 492) 9) 44).2)
        rw [eM2]
        exact no2 g1 g2 _
      have g2 : (numb tl tx (iA tl tx p).2 2 0 15 ((tN B M (iO tl tx p) (iA tl tx p).2).1 (B + 492) 9) 44).1 = true := bi_n0.mp g2
      rw [eB] at g2
      have T2 : TX B (tN B (tN B M (iO tl tx p) (iA tl tx p).2) (iG tl tx p) (numb tl tx (iA tl tx p).2 2 0 15 ((tN B M (iO tl tx p) (iA tl tx p).2).1 (B + 492) 9) 44).2) tl (iB tl tx p).2 tx := by rw [eM2]; exact TX_tN hT i2
      have n2 : (tN B (tN B M (iO tl tx p) (iA tl tx p).2) (iG tl tx p) (numb tl tx (iA tl tx p).2 2 0 15 ((tN B M (iO tl tx p) (iA tl tx p).2).1 (B + 492) 9) 44).2).1 (B + 492) 9 = iG tl tx p := tN_9
      refine And.intro kd_492 (And.intro kd_492 (And.intro rfl (Exists.intro tl (Exists.intro (iB tl tx p).2 (Exists.intro tx (Exists.intro 3 (And.intro T2 (And.intro (by decide) (And.intro rfl (And.intro (fun g3 => ?_) (fun g3 => And.intro (Or.inl rfl) ?_)))))))))))
      rotate_left
      · have g3 : (iC tl tx p).1 = false := bi_0.mp g3
        show Q (some (.int 0)) (tN B (tN B (tN B M (iO tl tx p) (iA tl tx p).2) (iG tl tx p) (numb tl tx (iA tl tx p).2 2 0 15 ((tN B M (iO tl tx p) (iA tl tx p).2).1 (B + 492) 9) 44).2) (iK tl tx p) (iC tl tx p).2)
        rw [eM2, tN_tN]
        exact no3 g1 g2 g3 _
      have g3 : (iC tl tx p).1 = true := bi_n0.mp g3
      generalize hM2 : tN B (tN B M (iO tl tx p) (iA tl tx p).2) (iG tl tx p) (numb tl tx (iA tl tx p).2 2 0 15 ((tN B M (iO tl tx p) (iA tl tx p).2).1 (B + 492) 9) 44).2 = M2 at eM2 T2 n2
      have T3 : TX B (tN B M2 (iK tl tx p) (iC tl tx p).2) tl (iC tl tx p).2 tx := TX_tN T2 i3
      have n3 : (tN B M2 (iK tl tx p) (iC tl tx p).2).1 (B + 492) 9 = iK tl tx p := tN_9
      have e4 := e4 g1 g2 g3
      rw [e4] at hno hyes
      refine And.intro kd_492 (And.intro kd_492 (And.intro rfl (Exists.intro tl (Exists.intro (iC tl tx p).2 (Exists.intro tx (Exists.intro 4 (And.intro (by rw [← hM2] at T3; exact T3) (And.intro (by decide) (And.intro rfl (And.intro (fun g4 => ?_) (fun g4 => And.intro (Or.inl rfl) ?_)))))))))))
      rotate_left
      · have g4 : (iD tl tx p).1 = false := bi_0.mp g4
        have this := hno g4 (iT tl tx p)
        have key : Q (some (.int 0)) (tN B (tN B M2 (iK tl tx p) (iC tl tx p).2) (iT tl tx p) (iD tl tx p).2) := by rw [eM2, tN_tN, tN_tN]; exact this
        rw [← hM2] at key
        exact key
      have g4 : (iD tl tx p).1 = true := bi_n0.mp g4
      have key : mS B (tN B (tN B M2 (iK tl tx p) (iC tl tx p).2) (iT tl tx p) (iD tl tx p).2) 3 = nI (pn (mS B (tN B (tN B M2 (iK tl tx p) (iC tl tx p).2) (iT tl tx p) (iD tl tx p).2))) ∧ pn (mS B (tN B (tN B M2 (iK tl tx p) (iC tl tx p).2) (iT tl tx p) (iD tl tx p).2)) < 24 ∧ (((1 : Int32) = 0 ∨ (1 : Int32) = 1) ∧ Q (some (.int 1)) (mK B (tN B (tN B M2 (iK tl tx p) (iC tl tx p).2) (iT tl tx p) (iD tl tx p).2) (comS (mS B (tN B (tN B M2 (iK tl tx p) (iC tl tx p).2) (iT tl tx p) (iD tl tx p).2)) ((tN B M (iO tl tx p) (iA tl tx p).2).1 (B + 492) 9) (M2.1 (B + 492) 9) ((tN B M2 (iK tl tx p) (iC tl tx p).2).1 (B + 492) 9) ((tN B (tN B M2 (iK tl tx p) (iC tl tx p).2) (iT tl tx p) (iD tl tx p).2).1 (B + 492) 9)))) := by
        have e5 : tN B (tN B M2 (iK tl tx p) (iC tl tx p).2) (iT tl tx p) (iD tl tx p).2 = tN B M (iT tl tx p) (iD tl tx p).2 := by rw [eM2, tN_tN, tN_tN]
        have e6 : mS B (tN B M (iT tl tx p) (iD tl tx p).2) = mS B M := tN_o (by omega)
        rw [e5, e6, n1, n2, n3, show (tN B M (iT tl tx p) (iD tl tx p).2).1 (B + 492) 9 = iT tl tx p from tN_9]
        exact ⟨hm, hp, Or.inr rfl, hyes g4 (iT tl tx p)⟩
      rw [← hM2] at key
      exact And.intro kd_492 (And.intro kd_492 (And.intro rfl key))
  · exact h.elim
set_option maxRecDepth 100000 in
theorem wk_X6_mix (B : Nat) : fw_Wk B fl_X6 (cal_X6_mix B) [] cst_X6 none kX6_mix 2 (ct_X6_mix B) := by
  intro as M Q QX h
  unfold ct_X6_mix at h
  split at h
  · obtain ⟨rfl, h⟩ := h
    refine ⟨rfl, [], ⟨60, And.intro kd_492 (And.intro kd_492 ?_)⟩, nofun⟩
    exact h
  · exact h.elim
theorem dgN_ag {tl : Nat} {tx ty : Nat → Int32} (h : ∀ k, k < tl → tx k = ty k) : ∀ d a, dgN tl tx a d = dgN tl ty a d := by
  intro d
  induction d with
  | zero => intro a; rfl
  | succ d ih =>
    intro a
    rw [dgN_s, dgN_s, ih]
    by_cases z : a < tl
    · rw [h a z]
    · rw [if_neg (fun e => z e.1), if_neg (fun e => z e.1)]
theorem nbN_ag {tl : Nat} {tx ty : Nat → Int32} (h : ∀ k, k < tl → tx k = ty k) : ∀ n a, a + n ≤ tl → nbN tx a n = nbN ty a n := by
  intro n
  induction n with
  | zero => intro a _; rfl
  | succ n ih =>
    intro a ha
    unfold nbN
    rw [ih a (by omega), h (a + n) (by omega)]
theorem nbd_ag {tl a d : Nat} {tx ty : Nat → Int32} (h : ∀ k, k < tl → tx k = ty k) (ha : a ≤ tl) : nbN tx a (dgN tl tx a d) = nbN ty a (dgN tl ty a d) := by
  rw [← dgN_ag h]
  exact nbN_ag h _ a (dgN_tl d a ha)
theorem numb_ag {tl a d : Nat} {tx ty : Nat → Int32} {lo hi no sg : Int32} (h : ∀ k, k < tl → tx k = ty k) (ha : a ≤ tl) : numb tl tx a d lo hi no sg = numb tl ty a d lo hi no sg := by
  unfold numb
  rw [nbd_ag h ha, dgN_ag h]
  by_cases z : a + dgN tl ty a d < tl
  · rw [h _ z]
  · have f1 : ¬ (a + dgN tl ty a d < tl ∧ okN (tx (a + dgN tl ty a d)) 48 57 = true) := fun e => z e.1
    have f2 : ¬ (a + dgN tl ty a d < tl ∧ okN (ty (a + dgN tl ty a d)) 48 57 = true) := fun e => z e.1
    have f3 : ¬ (a + dgN tl ty a d < tl ∧ tx (a + dgN tl ty a d) = sg) := fun e => z e.1
    have f4 : ¬ (a + dgN tl ty a d < tl ∧ ty (a + dgN tl ty a d) = sg) := fun e => z e.1
    rw [if_neg f1, if_neg f2, if_neg f3, if_neg f4]
theorem item_ag {tl a : Nat} {tx ty : Nat → Int32} (h : ∀ k, k < tl → tx k = ty k) (ha : a ≤ tl) : item tl tx a = item tl ty a ∧ ∀ S, comI S tl tx a = comI S tl ty a := by
  obtain ⟨i1, i2, i3, i4⟩ := item_tl (tx := ty) ha
  have eO : iO tl tx a = iO tl ty a := nbd_ag h ha
  have eA : iA tl tx a = iA tl ty a := numb_ag h ha
  have eB : iB tl tx a = iB tl ty a := by unfold iB; rw [eA, eO]; exact numb_ag h i1
  have eC : iC tl tx a = iC tl ty a := by unfold iC; rw [eB]; exact numb_ag h i2
  have eD : iD tl tx a = iD tl ty a := by unfold iD; rw [eC]; exact numb_ag h i3
  refine ⟨by unfold item; rw [eA, eB, eC, eD], fun S => ?_⟩
  unfold comI
  rw [eO, show iG tl tx a = iG tl ty a from by unfold iG; rw [eA]; exact nbd_ag h i1, show iK tl tx a = iK tl ty a from by unfold iK; rw [eB]; exact nbd_ag h i2, show iT tl tx a = iT tl ty a from by unfold iT; rw [eC]; exact nbd_ag h i3]
theorem prN_ag {tl : Nat} {tx ty : Nat → Int32} (h : ∀ k, k < tl → tx k = ty k) : ∀ n S a, a ≤ tl → prN tl tx n S a = prN tl ty n S a := by
  intro n
  induction n with
  | zero => intro S a _; rfl
  | succ n ih =>
    intro S a ha
    obtain ⟨e1, e2⟩ := item_ag h ha
    unfold prN
    rw [e1, e2, ih _ _ (item_le ha)]
theorem prN_s {tl n a : Nat} {S : Sx} {tx : Nat → Int32} : prN tl tx (n + 1) S a = if a < tl then (if S 3 = 24 then (false, a, S) else if (item tl tx a).1 = true then prN tl tx n (comI S tl tx a) (item tl tx a).2 else (false, (item tl tx a).2, S)) else (true, a, S) := rfl
set_option maxRecDepth 100000 in
theorem wk_X6_parse (B : Nat) : fw_Wk B fl_X6 (cal_X6_parse B) [] cst_X6 (some .int) kX6_parse 1 (ct_X6_parse B) := by
  intro as M Q QX h
  unfold ct_X6_parse at h
  split at h
  · obtain ⟨rfl, ⟨S, n, H, tl, tx⟩, hR, hG, h⟩ := h
    have eS : mS B M = S := hR.1
    subst eS
    obtain ⟨t, ht, hW⟩ := GS_wf hG.1
    have hW : WF (6 * t) (mS B M) := hW
    have hz0 : ∀ k, 517 ≤ k → mS B M k = 0 := by obtain ⟨_, _, _, _, z⟩ := hG.1; exact z
    have ht6 : M.1 (B + 492) 6 = nI tl := hR.2.2.2.2.1
    have htl : tl ≤ 150 := hR.2.2.2.2.2.1
    have htx : ∀ k, k < tl → M.1 (B + 497) k = tx k := hR.2.2.2.2.2.2
    unfold opParse at h
    have h : ∀ M', RM B M' (if (prN tl tx 151 (mS B M) 0).1 = true then (0, (prN tl tx 151 (mS B M) 0).2.2 3, phZ (mS B M, n, H, tl, tx) (prN tl tx 151 (mS B M) 0).2.2) else (0, -10 - nI (prN tl tx 151 (mS B M) 0).2.1, (mS B M, n, H, tl, tx)) : Nat × Int32 × Zs).2.2 → Fr B M M' → Q (some (.int (if (prN tl tx 151 (mS B M) 0).1 = true then (0, (prN tl tx 151 (mS B M) 0).2.2 3, phZ (mS B M, n, H, tl, tx) (prN tl tx 151 (mS B M) 0).2.2) else (0, -10 - nI (prN tl tx 151 (mS B M) 0).2.1, (mS B M, n, H, tl, tx)) : Nat × Int32 × Zs).2.1)) M' := h
    have e0 : mS B (fw_st M (B + 492) 7 0) = mS B M := st_o (by omega)
    have hne : B + 495 ≠ B + 493 := by omega
    have hne' : B + 493 ≠ B + 495 := by omega
    have hR1 : RM B (fw_row (fw_st M (B + 492) 7 0) (B + 495) (cpN 517 (mS B (fw_st M (B + 492) 7 0)) ((fw_st M (B + 492) 7 0).1 (B + 495)))) (mS B M, n, H, tl, tx) := RM_row (RM_st hR ⟨by decide, by decide⟩) (Or.inl rfl)
    have hF1 : Fr B M (fw_row (fw_st M (B + 492) 7 0) (B + 495) (cpN 517 (mS B (fw_st M (B + 492) 7 0)) ((fw_st M (B + 492) 7 0).1 (B + 495)))) := Fr_tr Fr_st (Fr_row (by decide) (by decide))
    have hk1 : ∀ j, j < 517 → (fw_row (fw_st M (B + 492) 7 0) (B + 495) (cpN 517 (mS B (fw_st M (B + 492) 7 0)) ((fw_st M (B + 492) 7 0).1 (B + 495)))).1 (B + 495) j = mS B M j := fun j hj => by
      rw [row_1]; unfold cpN; rw [if_pos hj, e0]
    have e71 : (fw_row (fw_st M (B + 492) 7 0) (B + 495) (cpN 517 (mS B (fw_st M (B + 492) 7 0)) ((fw_st M (B + 492) 7 0).1 (B + 495)))).1 (B + 492) 7 = 0 := by rw [row_n (by omega), st_s]
    generalize eM1 : fw_row (fw_st M (B + 492) 7 0) (B + 495) (cpN 517 (mS B (fw_st M (B + 492) 7 0)) ((fw_st M (B + 492) 7 0).1 (B + 495))) = M1 at hR1 hF1 hk1 e71
    have hT1 : ∀ S' v a, a ≤ tl → TX B (mK B (tN B M1 v a) S') tl a (M1.1 (B + 497)) := fun S' v a ha => by
      refine ⟨?_, ?_, htl, ?_, ha⟩
      · rw [row_n (by omega), tN_o (by omega)]
      · rw [row_n (by omega), tN_n (by decide) (by decide)]; exact hR1.2.2.2.2.1
      · rw [row_n (by omega)]; exact tN_8
    have hag : ∀ k, k < tl → tx k = M1.1 (B + 497) k := fun k hk => (hR1.2.2.2.2.2.2 k hk).symm
    generalize M1.1 (B + 497) = ty at hT1 hag
    rw [prN_ag hag 151 _ 0 (Nat.zero_le _)] at h
    have hRM : ∀ S' v a, RM B (mK B (tN B M1 v a) S') (S', n, H, tl, tx) := fun S' v a => RM_K (RM_st (RM_st hR1 ⟨by decide, by decide⟩) ⟨by decide, by decide⟩)
    have hFr : ∀ S' v a, Fr B M (mK B (tN B M1 v a) S') := fun S' v a => Fr_tr hF1 (Fr_tr Fr_st (Fr_tr Fr_st Fr_K))
    have bad : ∀ S' v a, (∀ k, 517 ≤ k → S' k = mS B M k) → prN tl ty 151 (mS B M) 0 = (false, a, S') → Q (some (.int (-10 - (fw_row (mK B (tN B M1 v a) S') (B + 493) (cpN 517 ((mK B (tN B M1 v a) S').1 (B + 495)) (mS B (mK B (tN B M1 v a) S')))).1 (B + 492) 8))) (fw_row (mK B (tN B M1 v a) S') (B + 493) (cpN 517 ((mK B (tN B M1 v a) S').1 (B + 495)) (mS B (mK B (tN B M1 v a) S')))) := by
      intro S' v a hS' e
      rw [e] at h
      have h : ∀ M', RM B M' (mS B M, n, H, tl, tx) → Fr B M M' → Q (some (.int (-10 - nI a))) M' := h
      have e1 : cpN 517 ((mK B (tN B M1 v a) S').1 (B + 495)) (mS B (mK B (tN B M1 v a) S')) = mS B M := by
        funext k
        unfold cpN
        by_cases g : k < 517
        · rw [if_pos g, row_n (by omega), tN_o (by omega)]; exact hk1 k g
        · rw [if_neg g, mS_K]; exact hS' k (by omega)
      rw [e1, row_row, row_n (by omega), tN_8]
      exact h _ (hRM _ _ _) (hFr _ _ _)
    refine ⟨rfl, [(14, [true], fun m ls st M' => ∃ r S' a v b, m = r ∧ a ≤ tl ∧ tl - a < r ∧ prN tl ty r S' a = prN tl ty 151 (mS B M) 0 ∧ WF b S' ∧ (∀ k, 517 ≤ k → S' k = mS B M k) ∧ ls = [some (.ref (B + 492))] ∧ st = [] ∧ M' = mK B (tN B M1 v a) S')], ⟨100, ?_⟩, ?_⟩
    · refine And.intro kd_492 (And.intro kd_492 (And.intro rfl (And.intro kd_492 ?_)))
      refine Exists.intro 151 (Exists.intro 151 (Exists.intro (mS B M) (Exists.intro 0 (Exists.intro (M1.1 (B + 492) 9) (Exists.intro (6 * t) ⟨rfl, by omega, by omega, rfl, hW, fun _ _ => rfl, rfl, rfl, ?_⟩)))))
      rw [tN_id]
      show fw_st (fw_row (fw_st M (B + 492) 7 0) (B + 495) (cpN 517 (mS B (fw_st M (B + 492) 7 0)) ((fw_st M (B + 492) 7 0).1 (B + 495)))) (B + 492) 8 0 = _
      rw [eM1, show mS B M = mS B (fw_st M1 (B + 492) 8 (nI 0)) from (hR1.1.symm.trans (st_o (by omega)).symm), mK_S]
      rfl
    · intro q hq m ls st M' hi
      cases List.mem_singleton.mp hq
      obtain ⟨r, S', a, v, b, rfl, ha, hr, hp, hW', hS', rfl, rfl, rfl⟩ := hi
      have hT := hT1 S' v a ha
      have f6 := hT.2.1
      have f8 := hT.2.2.2.1
      obtain ⟨r', rfl⟩ : ∃ r', m = r' + 1 := ⟨m - 1, by omega⟩
      rw [prN_s] at hp
      refine ⟨200, And.intro kd_492 (And.intro kd_492 (And.intro (fun h1 => ?_) (fun h1 => ?_)))⟩
      · have h1 : (mK B (tN B M1 v a) S').1 (B + 492) 6 ≤ (mK B (tN B M1 v a) S').1 (B + 492) 8 := h1
        rw [f6, f8, n_ge (by omega) (by omega)] at h1
        rw [if_neg (by omega)] at hp
        rw [← hp] at h
        have h : ∀ M', RM B M' (phZ (mS B M, n, H, tl, tx) S') → Fr B M M' → Q (some (.int (S' 3))) M' := h
        refine And.intro kd_492 (And.intro kd_493 (And.intro (vn_493 (i := 3) (by decide)) (And.intro kd_492 ?_)))
        show ct_X6_ends B [.ref (B + 492), .int (mS B (mK B (tN B M1 v a) S') 3)] (mK B (tN B M1 v a) S') Q QX
        rw [mS_K]
        refine ⟨rfl, (S', n, H, tl, tx), mS B M, hRM S' v a, fun k hk => ?_, fun M' a1 a2 a3 => h M' a1 (Fr_tr (hFr S' v a) a3)⟩
        rw [row_n (by omega), tN_o (by omega)]
        exact hk1 k hk
      · have h1 : ¬ (mK B (tN B M1 v a) S').1 (B + 492) 6 ≤ (mK B (tN B M1 v a) S').1 (B + 492) 8 := h1
        rw [f6, f8, n_ge (by omega) (by omega)] at h1
        rw [if_pos (by omega)] at hp
        have hK : mS B (mK B (tN B M1 v a) S') = S' := mS_K
        refine And.intro kd_492 (And.intro rfl (Exists.intro b (Exists.intro tl (Exists.intro a (Exists.intro ty (And.intro hT (And.intro (by rw [hK]; exact hW') (And.intro (fun g1 => ?_) (And.intro (fun g1 g2 v' => ?_) (fun g1 g2 v' => ?_))))))))))
        · rw [hK] at g1
          rw [if_pos g1] at hp
          refine And.intro (fun z => absurd rfl z) (fun _ => ?_)
          refine And.intro kd_492 (And.intro kd_492 (And.intro kd_493 (And.intro kd_495 (And.intro ln_493 (And.intro ln_495 (And.intro hne' (And.intro kd_492 ?_)))))))
          exact bad S' v a hS' hp.symm
        · rw [hK] at g1
          rw [if_neg g1, if_neg (by rw [g2]; decide)] at hp
          refine And.intro (fun z => absurd rfl z) (fun _ => ?_)
          refine And.intro kd_492 (And.intro kd_492 (And.intro kd_493 (And.intro kd_495 (And.intro ln_493 (And.intro ln_495 (And.intro hne' (And.intro kd_492 ?_)))))))
          have key := bad S' v' (item tl ty a).2 hS' hp.symm
          rw [← tN_tN (v := v) (p := a), ← tN_K] at key
          exact key
        · rw [hK] at g1
          rw [if_neg g1, if_pos g2] at hp
          have hpn : pn S' < 24 := by
            rcases Nat.lt_or_ge (pn S') 24 with z | z
            · exact z
            · exact absurd (by rw [hW'.2.2.1, show pn S' = 24 by have := hW'.2.2.2.1; omega]; rfl) g1
          have hgt := item_gt g2
          have hle := item_le (tx := ty) ha
          refine And.intro (fun _ => ?_) (fun z => absurd (show (1 : Int32) = 0 from z) (by decide))
          refine Exists.intro r' (And.intro (by omega) (Exists.intro r' (Exists.intro (comI S' tl ty a) (Exists.intro (item tl ty a).2 (Exists.intro v' (Exists.intro b ⟨rfl, hle, by omega, hp, WF_comI hW' hpn g2, fun k hk => by rw [show comI S' tl ty a k = S' k from com_hi hpn hk]; exact hS' k hk, rfl, rfl, ?_⟩))))))
          rw [hK, tN_K, mK_K, tN_tN]
  · exact h.elim
set_option maxRecDepth 100000 in
theorem wk_X6_digest (B : Nat) : fw_Wk B fl_X6 (cal_X6_digest B) [] cst_X6 (some .long) kX6_digest 3 (ct_X6_digest B) := by
  intro as M Q QX h
  unfold ct_X6_digest at h
  split at h
  · obtain ⟨rfl, ⟨S, n, H, tl, tx⟩, hR, hG, h⟩ := h
    have eS : mS B M = S := hR.1
    subst eS
    obtain ⟨t, ht, hW⟩ := GS_wf hG.1
    have hW : WF (6 * t) (mS B M) := hW
    have hn : mS B M 2 = nI (cn (mS B M)) := hW.1
    have hn6 : cn (mS B M) ≤ 6 := hW.2.1
    have hm : mS B M 3 = nI (pn (mS B M)) := hW.2.2.1
    have hm24 : pn (mS B M) ≤ 24 := hW.2.2.2.1
    have h4 : M.1 (B + 492) 4 = nI n := hR.2.1
    have h6 : M.1 (B + 492) 6 = nI tl := hR.2.2.2.2.1
    have h := fun x => h (fw_stl (fw_st M (B + 492) 7 0) 0 x) (RM_h (RM_st hR ⟨by decide, by decide⟩)) (Fr_tr Fr_st Fr_h)
    have g4 : (fw_st M (B + 492) 7 0).1 (B + 492) 4 = nI n := by rw [st_n (by decide)]; exact h4
    have g6 : (fw_st M (B + 492) 7 0).1 (B + 492) 6 = nI tl := by rw [st_n (by decide)]; exact h6
    have gS : mS B (fw_st M (B + 492) 7 0) = mS B M := st_o (by omega)
    generalize hM1 : fw_st M (B + 492) 7 0 = M1 at h g4 g6 gS
    generalize hS : mS B M = S at hn hn6 hm hm24 h gS
    have gS : ∀ x, mS B (fw_stl M1 0 x) = S := fun _ => gS
    have hh : Q (some (.long (dgst (S, n, H, tl, tx)))) (fw_stl M1 0 (dgst (S, n, H, tl, tx))) := h _
    generalize hN : cn S = N at hn hn6
    generalize hP : pn S = P at hm hm24
    refine ⟨rfl, [
      (22, [true, true, false], fun m ls st M' => ∃ i, m = 1000000 + (11 - i) ∧ i ≤ 11 ∧ ls = [some (.ref (B + 492)), some (.int (nI i)), none] ∧ st = [] ∧ M' = fw_stl M1 0 (mixN (mixh 3313 (nI tl)) (valS S) i)),
      (45, [true, true, false], fun m ls st M' => ∃ c, m = 500000 + 100 * (N - c) + 50 ∧ c ≤ N ∧ ls = [some (.ref (B + 492)), some (.int (nI c)), none] ∧ st = [] ∧ M' = fw_stl M1 0 (dgC S (dg1 (S, n, H, tl, tx)) c)),
      (57, [true, true, true], fun m ls st M' => ∃ c w, m = 500000 + 100 * (N - c) + (6 - w) ∧ c < N ∧ w ≤ 6 ∧ ls = [some (.ref (B + 492)), some (.int (nI c)), some (.int (nI w))] ∧ st = [] ∧ M' = fw_stl M1 0 (mixN (dgC S (dg1 (S, n, H, tl, tx)) c) (fun w => crS S c w) w)),
      (87, [true, true, false], fun m ls st M' => ∃ p, m = 1000 * (P - p) + 500 ∧ p ≤ P ∧ ls = [some (.ref (B + 492)), some (.int (nI p)), none] ∧ st = [] ∧ M' = fw_stl M1 0 (dgP S (dgC S (dg1 (S, n, H, tl, tx)) N) p)),
      (99, [true, true, true], fun m ls st M' => ∃ p w, m = 1000 * (P - p) + 300 + (9 - w) ∧ p < P ∧ w ≤ 9 ∧ ls = [some (.ref (B + 492)), some (.int (nI p)), some (.int (nI w))] ∧ st = [] ∧ M' = fw_stl M1 0 (mixN (dgP S (dgC S (dg1 (S, n, H, tl, tx)) N) p) (fun w => paS S p w) w)),
      (123, [true, true, true], fun m ls st M' => ∃ p c, m = 1000 * (P - p) + 100 + (N - c) ∧ p < P ∧ c ≤ N ∧ ls = [some (.ref (B + 492)), some (.int (nI p)), some (.int (nI c))] ∧ st = [] ∧ M' = fw_stl M1 0 (dgL S p (mixN (dgP S (dgC S (dg1 (S, n, H, tl, tx)) N) p) (fun w => paS S p w) 9) c))], ⟨100, ?_⟩, ?_⟩
    · refine And.intro kd_492 (And.intro kd_492 (And.intro kd_492 (And.intro kd_492 (And.intro rfl ?_))))
      refine Exists.intro (1000000 + (11 - 0)) (Exists.intro 0 ⟨rfl, by omega, rfl, rfl, ?_⟩)
      show fw_stl (fw_stl (fw_st M (B + 492) 7 0) 0 3313) 0 (mixh ((fw_stl (fw_st M (B + 492) 7 0) 0 3313).2.1 0) ((fw_stl (fw_st M (B + 492) 7 0) 0 3313).1 (B + 492) 6)) = _
      rw [hM1, stl_stl, stl_s, show (fw_stl M1 0 3313).1 (B + 492) 6 = nI tl from g6]
      rfl
    · intro q hq m ls st M' hi
      simp only [List.mem_cons, List.not_mem_nil, or_false] at hq
      rcases hq with rfl | rfl | rfl | rfl | rfl | rfl
      · obtain ⟨i, rfl, hi, rfl, rfl, rfl⟩ := hi
        refine ⟨60, And.intro (fun h1 => ?_) (fun h1 => ?_)⟩
        · have h1 : nI 11 ≤ nI i := h1
          rw [n_ge (by decide) (by omega)] at h1
          have ei : i = 11 := by omega
          subst ei
          exact Exists.intro (500000 + 100 * (N - 0) + 50) (And.intro (by omega) (Exists.intro 0 ⟨rfl, by omega, rfl, rfl, rfl⟩))
        · have h1 : ¬ nI 11 ≤ nI i := h1
          rw [n_ge (by decide) (by omega)] at h1
          refine And.intro kd_492 (And.intro rfl (And.intro (by rw [gS, hP]; exact hm) (And.intro (by rw [gS, hP]; exact hm24) (Exists.intro i (And.intro (by omega) (And.intro rfl (And.intro kd_492 (And.intro rfl ?_))))))))
          refine Exists.intro (1000000 + (11 - (i + 1))) (And.intro (by omega) (Exists.intro (i + 1) ⟨rfl, by omega, ?_, rfl, ?_⟩))
          · show [some (Value.ref (B + 492)), some (Value.int (nI i + 1)), none] = _
            rw [nI_1]
          · show fw_stl (fw_stl M1 0 _) 0 (mixh ((fw_stl M1 0 _).2.1 0) (valS (mS B (fw_stl M1 0 _)) i)) = _
            rw [stl_stl, stl_s, gS]
            rfl
      · obtain ⟨c, rfl, hc, rfl, rfl, rfl⟩ := hi
        refine ⟨60, And.intro kd_492 (And.intro kd_493 (And.intro (vn_493 (i := 2) (by decide)) (And.intro (fun h1 => ?_) (fun h1 => ?_))))⟩
        · have h1 : mS B (fw_stl M1 0 (dgC S (dg1 (S, n, H, tl, tx)) c)) 2 ≤ nI c := h1
          rw [gS, hn, n_ge (by omega) (by omega)] at h1
          have ec : c = N := by omega
          subst ec
          exact Exists.intro (1000 * (P - 0) + 500) (And.intro (by omega) (Exists.intro 0 ⟨rfl, by omega, rfl, rfl, rfl⟩))
        · have h1 : ¬ mS B (fw_stl M1 0 (dgC S (dg1 (S, n, H, tl, tx)) c)) 2 ≤ nI c := h1
          rw [gS, hn, n_ge (by omega) (by omega)] at h1
          exact Exists.intro (500000 + 100 * (N - c) + (6 - 0)) (And.intro (by omega) (Exists.intro c (Exists.intro 0 ⟨rfl, by omega, by omega, rfl, rfl, rfl⟩)))
      · obtain ⟨c, w, rfl, hc, hw, rfl, rfl, rfl⟩ := hi
        refine ⟨60, And.intro (fun h1 => ?_) (fun h1 => ?_)⟩
        · have h1 : nI 6 ≤ nI w := h1
          rw [n_ge (by decide) (by omega)] at h1
          have ew : w = 6 := by omega
          subst ew
          refine Exists.intro (500000 + 100 * (N - (c + 1)) + 50) (And.intro (by omega) (Exists.intro (c + 1) ⟨rfl, by omega, ?_, rfl, rfl⟩))
          show [some (Value.ref (B + 492)), some (Value.int (nI c + 1)), none] = _
          rw [nI_1]
        · have h1 : ¬ nI 6 ≤ nI w := h1
          rw [n_ge (by decide) (by omega)] at h1
          refine And.intro kd_492 (And.intro rfl (And.intro (by rw [gS, hP]; exact hm) (And.intro (by rw [gS, hP]; exact hm24) (Exists.intro c (Exists.intro w (And.intro (by omega) (And.intro (by omega) (And.intro rfl (And.intro rfl (And.intro kd_492 (And.intro rfl ?_)))))))))))
          refine Exists.intro (500000 + 100 * (N - c) + (6 - (w + 1))) (And.intro (by omega) (Exists.intro c (Exists.intro (w + 1) ⟨rfl, hc, by omega, ?_, rfl, ?_⟩)))
          · show [some (Value.ref (B + 492)), some (Value.int (nI c)), some (Value.int (nI w + 1))] = _
            rw [nI_1]
          · show fw_stl (fw_stl M1 0 _) 0 (mixh ((fw_stl M1 0 _).2.1 0) (crS (mS B (fw_stl M1 0 _)) c w)) = _
            rw [stl_stl, stl_s, gS]
            rfl
      · obtain ⟨p, rfl, hp, rfl, rfl, rfl⟩ := hi
        refine ⟨60, And.intro kd_492 (And.intro kd_493 (And.intro (vn_493 (i := 3) (by decide)) (And.intro (fun h1 => ?_) (fun h1 => ?_))))⟩
        · have h1 : mS B (fw_stl M1 0 (dgP S (dgC S (dg1 (S, n, H, tl, tx)) N) p)) 3 ≤ nI p := h1
          rw [gS, hm, n_ge (by omega) (by omega)] at h1
          have ep : p = P := by omega
          subst ep
          refine And.intro kd_492 (And.intro kd_492 (And.intro rfl (And.intro kd_492 ?_)))
          unfold dgst at hh
          rw [hN, hP] at hh
          have g4' : (fw_stl M1 0 (dgP S (dgC S (dg1 (S, n, H, tl, tx)) N) p)).1 (B + 492) 4 = nI n := g4
          show Q (some (.long ((fw_stl (fw_stl M1 0 (dgP S (dgC S (dg1 (S, n, H, tl, tx)) N) p)) 0 (mixh ((fw_stl M1 0 (dgP S (dgC S (dg1 (S, n, H, tl, tx)) N) p)).2.1 0) ((fw_stl M1 0 (dgP S (dgC S (dg1 (S, n, H, tl, tx)) N) p)).1 (B + 492) 4))).2.1 0))) (fw_stl (fw_stl M1 0 (dgP S (dgC S (dg1 (S, n, H, tl, tx)) N) p)) 0 (mixh ((fw_stl M1 0 (dgP S (dgC S (dg1 (S, n, H, tl, tx)) N) p)).2.1 0) ((fw_stl M1 0 (dgP S (dgC S (dg1 (S, n, H, tl, tx)) N) p)).1 (B + 492) 4)))
          rw [g4', stl_s, stl_s, stl_stl]
          exact hh
        · have h1 : ¬ mS B (fw_stl M1 0 (dgP S (dgC S (dg1 (S, n, H, tl, tx)) N) p)) 3 ≤ nI p := h1
          rw [gS, hm, n_ge (by omega) (by omega)] at h1
          exact Exists.intro (1000 * (P - p) + 300 + (9 - 0)) (And.intro (by omega) (Exists.intro p (Exists.intro 0 ⟨rfl, by omega, by omega, rfl, rfl, rfl⟩)))
      · obtain ⟨p, w, rfl, hp, hw, rfl, rfl, rfl⟩ := hi
        refine ⟨60, And.intro (fun h1 => ?_) (fun h1 => ?_)⟩
        · have h1 : nI 9 ≤ nI w := h1
          rw [n_ge (by decide) (by omega)] at h1
          have ew : w = 9 := by omega
          subst ew
          exact Exists.intro (1000 * (P - p) + 100 + (N - 0)) (And.intro (by omega) (Exists.intro p (Exists.intro 0 ⟨rfl, hp, by omega, rfl, rfl, rfl⟩)))
        · have h1 : ¬ nI 9 ≤ nI w := h1
          rw [n_ge (by decide) (by omega)] at h1
          refine And.intro kd_492 (And.intro rfl (Exists.intro p (Exists.intro w (And.intro (by omega) (And.intro (by omega) (And.intro rfl (And.intro rfl (And.intro kd_492 (And.intro rfl ?_)))))))))
          refine Exists.intro (1000 * (P - p) + 300 + (9 - (w + 1))) (And.intro (by omega) (Exists.intro p (Exists.intro (w + 1) ⟨rfl, hp, by omega, ?_, rfl, ?_⟩)))
          · show [some (Value.ref (B + 492)), some (Value.int (nI p)), some (Value.int (nI w + 1))] = _
            rw [nI_1]
          · show fw_stl (fw_stl M1 0 _) 0 (mixh ((fw_stl M1 0 _).2.1 0) (paS (mS B (fw_stl M1 0 _)) p w)) = _
            rw [stl_stl, stl_s, gS]
            rfl
      · obtain ⟨p, c, rfl, hp, hc, rfl, rfl, rfl⟩ := hi
        refine ⟨100, And.intro kd_492 (And.intro kd_493 (And.intro (vn_493 (i := 2) (by decide)) (And.intro (fun h1 => ?_) (fun h1 => ?_))))⟩
        · have h1 : mS B (fw_stl M1 0 (dgL S p (mixN (dgP S (dgC S (dg1 (S, n, H, tl, tx)) N) p) (fun w => paS S p w) 9) c)) 2 ≤ nI c := h1
          rw [gS, hn, n_ge (by omega) (by omega)] at h1
          have ec : c = N := by omega
          subst ec
          refine Exists.intro (1000 * (P - (p + 1)) + 500) (And.intro (by omega) (Exists.intro (p + 1) ⟨rfl, by omega, ?_, rfl, ?_⟩))
          · show [some (Value.ref (B + 492)), some (Value.int (nI p + 1)), none] = _
            rw [nI_1]
          · show _ = fw_stl M1 0 (dgL S p (mixN (dgP S (dgC S (dg1 (S, n, H, tl, tx)) c) p) (fun w => paS S p w) 9) (cn S))
            rw [hN]
        · have h1 : ¬ mS B (fw_stl M1 0 (dgL S p (mixN (dgP S (dgC S (dg1 (S, n, H, tl, tx)) N) p) (fun w => paS S p w) 9) c)) 2 ≤ nI c := h1
          rw [gS, hn, n_ge (by omega) (by omega)] at h1
          refine And.intro kd_492 (And.intro rfl (And.intro (vPL (by omega) (by omega)) (And.intro kd_492 (And.intro rfl (And.intro kd_492 (And.intro rfl (And.intro (vPS (by omega) (by omega)) (And.intro kd_492 (And.intro rfl ?_)))))))))
          refine Exists.intro (1000 * (P - p) + 100 + (N - (c + 1))) (And.intro (by omega) (Exists.intro p (Exists.intro (c + 1) ⟨rfl, hp, by omega, ?_, rfl, ?_⟩)))
          · show [some (Value.ref (B + 492)), some (Value.int (nI p)), some (Value.int (nI c + 1))] = _
            rw [nI_1]
          · show fw_stl (fw_stl (fw_stl M1 0 _) 0 (mixh ((fw_stl M1 0 _).2.1 0) (mS B (fw_stl M1 0 _) ((37 : Int32) + 20 * nI p + (8 + nI c)).toNatClampNeg))) 0 (mixh ((fw_stl (fw_stl M1 0 _) 0 _).2.1 0) (mS B (fw_stl (fw_stl M1 0 _) 0 _) ((37 : Int32) + 20 * nI p + (14 + nI c)).toNatClampNeg)) = _
            simp only [stl_stl, stl_s, gS]
            show fw_stl M1 0 (mixh (mixh _ (S ((37 : Int32) + 20 * nI p + (8 + nI c)).toNatClampNeg)) (S ((37 : Int32) + 20 * nI p + (14 + nI c)).toNatClampNeg)) = _
            rw [pxL, pxS, n_cl (by omega), n_cl (by omega)]
            rfl
  · exact h.elim
end WR5
end
section
/-! contracts out of walks (printed by program) -/
section
abbrev rm_X6_ends : Room := { frames := 1, cells := 0, slots := 0, locals := 21 }
theorem me_X6_ends (l : Launch) (g : fw_G) (B : Nat) : fw_Met l g B yX6_ends cX6_ends 3 (some .int) rm_X6_ends 0 0 (ct_X6_ends B) := by
  refine fw_met (own := RX6) (by decide +kernel) rfl kX6_ends_ok kX6_ends_cst fl_X6_ok ?_ ?_ (wk_X6_ends B)
  · intro q hq
    simp only [cal_X6_ends, List.mem_cons, List.not_mem_nil, or_false] at hq
    rcases hq with rfl
    · exact fw_calV (ci := 6) (me_X6_tells l g B) (by decide) wl_X6_36 wi_X6_tells wv_X6_tells wz_RX6 wc_X6_tells rfl rfl (by decide +kernel) ⟨by decide, by decide⟩
  · exact fun q hq => nomatch hq
abbrev rm_X6_inState : Room := { frames := 1, cells := 0, slots := 0, locals := 22 }
theorem me_X6_inState (l : Launch) (g : fw_G) (B : Nat) : fw_Met l g B yX6_inState cX6_inState 4 (some .int) rm_X6_inState 0 0 (ct_X6_inState B) := by
  refine fw_met (own := RX6) (by decide +kernel) rfl kX6_inState_ok kX6_inState_cst fl_X6_ok ?_ ?_ (wk_X6_inState B)
  · intro q hq
    simp only [cal_X6_inState, List.mem_cons, List.not_mem_nil, or_false] at hq
    rcases hq with rfl
    · exact fw_calV (ci := 6) (me_X6_its l g B) (by decide) wl_X6_52 wi_X6_its wv_X6_its wz_RX6 wc_X6_its rfl rfl (by decide +kernel) ⟨by decide, by decide⟩
  · exact fun q hq => nomatch hq
abbrev rm_X6_comes : Room := { frames := 1, cells := 0, slots := 0, locals := 23 }
theorem me_X6_comes (l : Launch) (g : fw_G) (B : Nat) : fw_Met l g B yX6_comes cX6_comes 7 (none) rm_X6_comes 0 0 (ct_X6_comes B) := by
  refine fw_met (own := RX6) (by decide +kernel) rfl kX6_comes_ok kX6_comes_cst fl_X6_ok ?_ ?_ (wk_X6_comes B)
  · intro q hq
    simp only [cal_X6_comes, List.mem_cons, List.not_mem_nil, or_false] at hq
    rcases hq with rfl
    · exact fw_calV (ci := 6) (me_X6_puts l g B) (by decide) wl_X6_65 wi_X6_puts wv_X6_puts wz_RX6 wc_X6_puts rfl rfl (by decide +kernel) ⟨by decide, by decide⟩
  · exact fun q hq => nomatch hq
abbrev rm_X6_drops : Room := { frames := 2, cells := 0, slots := 0, locals := 44 }
theorem me_X6_drops (l : Launch) (g : fw_G) (B : Nat) : fw_Met l g B yX6_drops cX6_drops 3 (some .int) rm_X6_drops 0 0 (ct_X6_drops B) := by
  refine fw_met (own := RX6) (by decide +kernel) rfl kX6_drops_ok kX6_drops_cst fl_X6_ok ?_ ?_ (wk_X6_drops B)
  · intro q hq
    simp only [cal_X6_drops, List.mem_cons, List.not_mem_nil, or_false] at hq
    rcases hq with rfl | rfl | rfl
    · exact fw_calV (ci := 6) (me_X6_of l g B) (by decide) wl_X6_44 wi_X6_of wv_X6_of wz_RX6 wc_X6_of rfl rfl (by decide +kernel) ⟨by decide, by decide⟩
    · exact fw_calV (ci := 6) (me_X6_puts l g B) (by decide) wl_X6_65 wi_X6_puts wv_X6_puts wz_RX6 wc_X6_puts rfl rfl (by decide +kernel) ⟨by decide, by decide⟩
    · exact fw_calV (ci := 6) (me_X6_frees l g B) (by decide) wl_X6_72 wi_X6_frees wv_X6_frees wz_RX6 wc_X6_frees rfl rfl (by decide +kernel) ⟨by decide, by decide⟩
  · exact fun q hq => nomatch hq
abbrev rm_X6_valueOf : Room := { frames := 2, cells := 0, slots := 0, locals := 45 }
theorem me_X6_valueOf (l : Launch) (g : fw_G) (B : Nat) : fw_Met l g B yX6_valueOf cX6_valueOf 2 (some .int) rm_X6_valueOf 0 0 (ct_X6_valueOf B) := by
  refine fw_met (own := RX6) (by decide +kernel) rfl kX6_valueOf_ok kX6_valueOf_cst fl_X6_ok ?_ ?_ (wk_X6_valueOf B)
  · intro q hq
    simp only [cal_X6_valueOf, List.mem_cons, List.not_mem_nil, or_false] at hq
    rcases hq with rfl
    · exact fw_calV (ci := 6) (me_X6_inState l g B) (by decide) wl_X6_127 wi_X6_inState wv_X6_inState wz_RX6 wc_X6_inState rfl rfl (by decide +kernel) ⟨by decide, by decide⟩
  · exact fun q hq => nomatch hq
abbrev rm_X6_courierOf : Room := { frames := 1, cells := 0, slots := 0, locals := 22 }
theorem me_X6_courierOf (l : Launch) (g : fw_G) (B : Nat) : fw_Met l g B yX6_courierOf cX6_courierOf 5 (some .int) rm_X6_courierOf 0 0 (ct_X6_courierOf B) := by
  refine fw_met (own := RX6) (by decide +kernel) rfl kX6_courierOf_ok kX6_courierOf_cst fl_X6_ok ?_ ?_ (wk_X6_courierOf B)
  · intro q hq
    simp only [cal_X6_courierOf, List.mem_cons, List.not_mem_nil, or_false] at hq
    rcases hq with rfl | rfl
    · exact fw_calV (ci := 6) (me_X6_of l g B) (by decide) wl_X6_44 wi_X6_of wv_X6_of wz_RX6 wc_X6_of rfl rfl (by decide +kernel) ⟨by decide, by decide⟩
    · exact fw_calV (ci := 6) (me_X6_its l g B) (by decide) wl_X6_52 wi_X6_its wv_X6_its wz_RX6 wc_X6_its rfl rfl (by decide +kernel) ⟨by decide, by decide⟩
  · exact fun q hq => nomatch hq
abbrev rm_X6_parcelOf : Room := { frames := 2, cells := 0, slots := 0, locals := 45 }
theorem me_X6_parcelOf (l : Launch) (g : fw_G) (B : Nat) : fw_Met l g B yX6_parcelOf cX6_parcelOf 3 (some .int) rm_X6_parcelOf 0 0 (ct_X6_parcelOf B) := by
  refine fw_met (own := RX6) (by decide +kernel) rfl kX6_parcelOf_ok kX6_parcelOf_cst fl_X6_ok ?_ ?_ (wk_X6_parcelOf B)
  · intro q hq
    simp only [cal_X6_parcelOf, List.mem_cons, List.not_mem_nil, or_false] at hq
    rcases hq with rfl | rfl
    · exact fw_calV (ci := 6) (me_X6_its l g B) (by decide) wl_X6_52 wi_X6_its wv_X6_its wz_RX6 wc_X6_its rfl rfl (by decide +kernel) ⟨by decide, by decide⟩
    · exact fw_calV (ci := 6) (me_X6_legsOf l g B) (by decide) wl_X6_62 wi_X6_legsOf wv_X6_legsOf wz_RX6 wc_X6_legsOf rfl rfl (by decide +kernel) ⟨by decide, by decide⟩
  · exact fun q hq => nomatch hq
abbrev rm_X6_apart : Room := { frames := 0, cells := 0, slots := 0, locals := 0 }
theorem me_X6_apart (l : Launch) (g : fw_G) (B : Nat) : fw_Met l g B yX6_apart cX6_apart 2 (some .int) rm_X6_apart 0 0 (ct_X6_apart B) := by
  refine fw_met (own := RX6) (by decide +kernel) rfl kX6_apart_ok kX6_apart_cst fl_X6_ok ?_ ?_ (wk_X6_apart B)
  · intro q hq
    simp only [cal_X6_apart, List.mem_cons, List.not_mem_nil, or_false] at hq
  · exact fun q hq => nomatch hq
abbrev rm_X6_reach : Room := { frames := 2, cells := 0, slots := 0, locals := 44 }
theorem me_X6_reach (l : Launch) (g : fw_G) (B : Nat) : fw_Met l g B yX6_reach cX6_reach 5 (some .int) rm_X6_reach 0 0 (ct_X6_reach B) := by
  refine fw_met (own := RX6) (by decide +kernel) rfl kX6_reach_ok kX6_reach_cst fl_X6_ok ?_ ?_ (wk_X6_reach B)
  · intro q hq
    simp only [cal_X6_reach, List.mem_cons, List.not_mem_nil, or_false] at hq
    rcases hq with rfl | rfl
    · exact fw_calV (ci := 6) (me_X6_isIn l g B) (by decide) wl_X6_55 wi_X6_isIn wv_X6_isIn wz_RX6 wc_X6_isIn rfl rfl (by decide +kernel) ⟨by decide, by decide⟩
    · exact fw_calS (me_X6_next l g B) wl_X6_59 ws_X6_next wz_RX6 wc_X6_next rfl rfl (by decide +kernel) ⟨by decide, by decide⟩
  · exact fun q hq => nomatch hq
abbrev rm_X6_relays : Room := { frames := 3, cells := 0, slots := 0, locals := 68 }
theorem me_X6_relays (l : Launch) (g : fw_G) (B : Nat) : fw_Met l g B yX6_relays cX6_relays 9 (some .int) rm_X6_relays 0 0 (ct_X6_relays B) := by
  refine fw_met (own := RX6) (by decide +kernel) rfl kX6_relays_ok kX6_relays_cst fl_X6_ok ?_ ?_ (wk_X6_relays B)
  · intro q hq
    simp only [cal_X6_relays, List.mem_cons, List.not_mem_nil, or_false] at hq
    rcases hq with rfl | rfl | rfl
    · exact fw_calV (ci := 6) (me_X6_its l g B) (by decide) wl_X6_52 wi_X6_its wv_X6_its wz_RX6 wc_X6_its rfl rfl (by decide +kernel) ⟨by decide, by decide⟩
    · exact fw_calV (ci := 6) (me_X6_reach l g B) (by decide) wl_X6_148 wi_X6_reach wv_X6_reach wz_RX6 wc_X6_reach rfl rfl (by decide +kernel) ⟨by decide, by decide⟩
    · exact fw_calS (me_X6_apart l g B) wl_X6_145 ws_X6_apart wz_RX6 wc_X6_apart rfl rfl (by decide +kernel) ⟨by decide, by decide⟩
  · exact fun q hq => nomatch hq
abbrev rm_X6_more : Room := { frames := 7, cells := 0, slots := 0, locals := 164 }
theorem me_X6_more (l : Launch) (g : fw_G) (B : Nat) : fw_Met l g B yX6_more cX6_more 4 (some .int) rm_X6_more 0 0 (ct_X6_more B) := by
  refine fw_met (own := RX6) (by decide +kernel) rfl kX6_more_ok kX6_more_cst fl_X6_ok ?_ ?_ (wk_X6_more B)
  · intro q hq
    simp only [cal_X6_more, List.mem_cons, List.not_mem_nil, or_false] at hq
    rcases hq with rfl | rfl
    · exact fw_calV (ci := 6) (me_X6_ticks l g B) (by decide) wl_X6_130 wi_X6_ticks wv_X6_ticks wz_RX6 wc_X6_ticks rfl rfl (by decide +kernel) ⟨by decide, by decide⟩
    · exact fw_calS (me_X6_copies l g B) wl_X6_29 ws_X6_copies wz_RX6 wc_X6_copies rfl rfl (by decide +kernel) ⟨by decide, by decide⟩
  · exact fun q hq => nomatch hq
abbrev rm_X6_paidBy : Room := { frames := 8, cells := 0, slots := 0, locals := 187 }
theorem me_X6_paidBy (l : Launch) (g : fw_G) (B : Nat) : fw_Met l g B yX6_paidBy cX6_paidBy 2 (some .int) rm_X6_paidBy 0 0 (ct_X6_paidBy B) := by
  refine fw_met (own := RX6) (by decide +kernel) rfl kX6_paidBy_ok kX6_paidBy_cst fl_X6_ok ?_ ?_ (wk_X6_paidBy B)
  · intro q hq
    simp only [cal_X6_paidBy, List.mem_cons, List.not_mem_nil, or_false] at hq
    rcases hq with rfl | rfl
    · exact fw_calS (me_X6_copies l g B) wl_X6_29 ws_X6_copies wz_RX6 wc_X6_copies rfl rfl (by decide +kernel) ⟨by decide, by decide⟩
    · exact fw_calV (ci := 6) (me_X6_more l g B) (by decide) wl_X6_155 wi_X6_more wv_X6_more wz_RX6 wc_X6_more rfl rfl (by decide +kernel) ⟨by decide, by decide⟩
  · exact fun q hq => nomatch hq
abbrev rm_X6_isDone : Room := { frames := 2, cells := 0, slots := 0, locals := 45 }
theorem me_X6_isDone (l : Launch) (g : fw_G) (B : Nat) : fw_Met l g B yX6_isDone cX6_isDone 1 (some .boolean) rm_X6_isDone 0 0 (ct_X6_isDone B) := by
  refine fw_met (own := RX6) (by decide +kernel) rfl kX6_isDone_ok kX6_isDone_cst fl_X6_ok ?_ ?_ (wk_X6_isDone B)
  · intro q hq
    simp only [cal_X6_isDone, List.mem_cons, List.not_mem_nil, or_false] at hq
    rcases hq with rfl
    · exact fw_calV (ci := 6) (me_X6_inState l g B) (by decide) wl_X6_127 wi_X6_inState wv_X6_inState wz_RX6 wc_X6_inState rfl rfl (by decide +kernel) ⟨by decide, by decide⟩
  · exact fun q hq => nomatch hq
abbrev rm_X6_addCourier : Room := { frames := 2, cells := 0, slots := 0, locals := 44 }
theorem me_X6_addCourier (l : Launch) (g : fw_G) (B : Nat) : fw_Met l g B yX6_addCourier cX6_addCourier 4 (some .int) rm_X6_addCourier 0 0 (ct_X6_addCourier B) := by
  refine fw_met (own := RX6) (by decide +kernel) rfl kX6_addCourier_ok kX6_addCourier_cst fl_X6_ok ?_ ?_ (wk_X6_addCourier B)
  · intro q hq
    simp only [cal_X6_addCourier, List.mem_cons, List.not_mem_nil, or_false] at hq
    rcases hq with rfl | rfl | rfl | rfl | rfl | rfl | rfl
    · exact fw_calS (me_X6_isArea l g B) wl_X6_101 ws_X6_isArea wz_RX6 wc_X6_isArea rfl rfl (by decide +kernel) ⟨by decide, by decide⟩
    · exact fw_calS (me_X6_isZone l g B) wl_X6_105 ws_X6_isZone wz_RX6 wc_X6_isZone rfl rfl (by decide +kernel) ⟨by decide, by decide⟩
    · exact fw_calV (ci := 6) (me_X6_fails l g B) (by decide) wl_X6_108 wi_X6_fails wv_X6_fails wz_RX6 wc_X6_fails rfl rfl (by decide +kernel) ⟨by decide, by decide⟩
    · exact fw_calV (ci := 6) (me_X6_hold l g B) (by decide) wl_X6_111 wi_X6_hold wv_X6_hold wz_RX6 wc_X6_hold rfl rfl (by decide +kernel) ⟨by decide, by decide⟩
    · exact fw_calV (ci := 6) (me_X6_sets l g B) (by decide) wl_X6_48 wi_X6_sets wv_X6_sets wz_RX6 wc_X6_sets rfl rfl (by decide +kernel) ⟨by decide, by decide⟩
    · exact fw_calV (ci := 6) (me_X6_frees l g B) (by decide) wl_X6_72 wi_X6_frees wv_X6_frees wz_RX6 wc_X6_frees rfl rfl (by decide +kernel) ⟨by decide, by decide⟩
    · exact fw_calV (ci := 6) (me_X6_ends l g B) (by decide) wl_X6_114 wi_X6_ends wv_X6_ends wz_RX6 wc_X6_ends rfl rfl (by decide +kernel) ⟨by decide, by decide⟩
  · exact fun q hq => nomatch hq
abbrev rm_X6_setArea : Room := { frames := 2, cells := 0, slots := 0, locals := 43 }
theorem me_X6_setArea (l : Launch) (g : fw_G) (B : Nat) : fw_Met l g B yX6_setArea cX6_setArea 4 (some .int) rm_X6_setArea 0 0 (ct_X6_setArea B) := by
  refine fw_met (own := RX6) (by decide +kernel) rfl kX6_setArea_ok kX6_setArea_cst fl_X6_ok ?_ ?_ (wk_X6_setArea B)
  · intro q hq
    simp only [cal_X6_setArea, List.mem_cons, List.not_mem_nil, or_false] at hq
    rcases hq with rfl | rfl | rfl | rfl | rfl | rfl | rfl
    · exact fw_calV (ci := 6) (me_X6_isCourier l g B) (by decide) wl_X6_117 wi_X6_isCourier wv_X6_isCourier wz_RX6 wc_X6_isCourier rfl rfl (by decide +kernel) ⟨by decide, by decide⟩
    · exact fw_calV (ci := 6) (me_X6_fails l g B) (by decide) wl_X6_108 wi_X6_fails wv_X6_fails wz_RX6 wc_X6_fails rfl rfl (by decide +kernel) ⟨by decide, by decide⟩
    · exact fw_calS (me_X6_isArea l g B) wl_X6_101 ws_X6_isArea wz_RX6 wc_X6_isArea rfl rfl (by decide +kernel) ⟨by decide, by decide⟩
    · exact fw_calV (ci := 6) (me_X6_hold l g B) (by decide) wl_X6_111 wi_X6_hold wv_X6_hold wz_RX6 wc_X6_hold rfl rfl (by decide +kernel) ⟨by decide, by decide⟩
    · exact fw_calV (ci := 6) (me_X6_of l g B) (by decide) wl_X6_44 wi_X6_of wv_X6_of wz_RX6 wc_X6_of rfl rfl (by decide +kernel) ⟨by decide, by decide⟩
    · exact fw_calV (ci := 6) (me_X6_sets l g B) (by decide) wl_X6_48 wi_X6_sets wv_X6_sets wz_RX6 wc_X6_sets rfl rfl (by decide +kernel) ⟨by decide, by decide⟩
    · exact fw_calV (ci := 6) (me_X6_ends l g B) (by decide) wl_X6_114 wi_X6_ends wv_X6_ends wz_RX6 wc_X6_ends rfl rfl (by decide +kernel) ⟨by decide, by decide⟩
  · exact fun q hq => nomatch hq
abbrev rm_X6_give : Room := { frames := 2, cells := 0, slots := 0, locals := 49 }
theorem me_X6_give (l : Launch) (g : fw_G) (B : Nat) : fw_Met l g B yX6_give cX6_give 5 (some .int) rm_X6_give 0 0 (ct_X6_give B) := by
  refine fw_met (own := RX6) (by decide +kernel) rfl kX6_give_ok kX6_give_cst fl_X6_ok ?_ ?_ (wk_X6_give B)
  · intro q hq
    simp only [cal_X6_give, List.mem_cons, List.not_mem_nil, or_false] at hq
    rcases hq with rfl | rfl | rfl | rfl | rfl | rfl
    · exact fw_calS (me_X6_isZone l g B) wl_X6_105 ws_X6_isZone wz_RX6 wc_X6_isZone rfl rfl (by decide +kernel) ⟨by decide, by decide⟩
    · exact fw_calS (me_X6_in l g B) wl_X6_40 ws_X6_in wz_RX6 wc_X6_in rfl rfl (by decide +kernel) ⟨by decide, by decide⟩
    · exact fw_calV (ci := 6) (me_X6_fails l g B) (by decide) wl_X6_108 wi_X6_fails wv_X6_fails wz_RX6 wc_X6_fails rfl rfl (by decide +kernel) ⟨by decide, by decide⟩
    · exact fw_calV (ci := 6) (me_X6_hold l g B) (by decide) wl_X6_111 wi_X6_hold wv_X6_hold wz_RX6 wc_X6_hold rfl rfl (by decide +kernel) ⟨by decide, by decide⟩
    · exact fw_calV (ci := 6) (me_X6_comes l g B) (by decide) wl_X6_120 wi_X6_comes wv_X6_comes wz_RX6 wc_X6_comes rfl rfl (by decide +kernel) ⟨by decide, by decide⟩
    · exact fw_calV (ci := 6) (me_X6_ends l g B) (by decide) wl_X6_114 wi_X6_ends wv_X6_ends wz_RX6 wc_X6_ends rfl rfl (by decide +kernel) ⟨by decide, by decide⟩
  · exact fun q hq => nomatch hq
abbrev rm_X6_setGrace : Room := { frames := 2, cells := 0, slots := 0, locals := 43 }
theorem me_X6_setGrace (l : Launch) (g : fw_G) (B : Nat) : fw_Met l g B yX6_setGrace cX6_setGrace 3 (some .int) rm_X6_setGrace 0 0 (ct_X6_setGrace B) := by
  refine fw_met (own := RX6) (by decide +kernel) rfl kX6_setGrace_ok kX6_setGrace_cst fl_X6_ok ?_ ?_ (wk_X6_setGrace B)
  · intro q hq
    simp only [cal_X6_setGrace, List.mem_cons, List.not_mem_nil, or_false] at hq
    rcases hq with rfl | rfl | rfl | rfl
    · exact fw_calS (me_X6_in l g B) wl_X6_40 ws_X6_in wz_RX6 wc_X6_in rfl rfl (by decide +kernel) ⟨by decide, by decide⟩
    · exact fw_calV (ci := 6) (me_X6_fails l g B) (by decide) wl_X6_108 wi_X6_fails wv_X6_fails wz_RX6 wc_X6_fails rfl rfl (by decide +kernel) ⟨by decide, by decide⟩
    · exact fw_calV (ci := 6) (me_X6_hold l g B) (by decide) wl_X6_111 wi_X6_hold wv_X6_hold wz_RX6 wc_X6_hold rfl rfl (by decide +kernel) ⟨by decide, by decide⟩
    · exact fw_calV (ci := 6) (me_X6_ends l g B) (by decide) wl_X6_114 wi_X6_ends wv_X6_ends wz_RX6 wc_X6_ends rfl rfl (by decide +kernel) ⟨by decide, by decide⟩
  · exact fun q hq => nomatch hq
abbrev rm_X6_drop : Room := { frames := 3, cells := 0, slots := 0, locals := 66 }
theorem me_X6_drop (l : Launch) (g : fw_G) (B : Nat) : fw_Met l g B yX6_drop cX6_drop 2 (some .int) rm_X6_drop 0 0 (ct_X6_drop B) := by
  refine fw_met (own := RX6) (by decide +kernel) rfl kX6_drop_ok kX6_drop_cst fl_X6_ok ?_ ?_ (wk_X6_drop B)
  · intro q hq
    simp only [cal_X6_drop, List.mem_cons, List.not_mem_nil, or_false] at hq
    rcases hq with rfl | rfl | rfl | rfl | rfl
    · exact fw_calV (ci := 6) (me_X6_isCourier l g B) (by decide) wl_X6_117 wi_X6_isCourier wv_X6_isCourier wz_RX6 wc_X6_isCourier rfl rfl (by decide +kernel) ⟨by decide, by decide⟩
    · exact fw_calV (ci := 6) (me_X6_fails l g B) (by decide) wl_X6_108 wi_X6_fails wv_X6_fails wz_RX6 wc_X6_fails rfl rfl (by decide +kernel) ⟨by decide, by decide⟩
    · exact fw_calV (ci := 6) (me_X6_hold l g B) (by decide) wl_X6_111 wi_X6_hold wv_X6_hold wz_RX6 wc_X6_hold rfl rfl (by decide +kernel) ⟨by decide, by decide⟩
    · exact fw_calV (ci := 6) (me_X6_drops l g B) (by decide) wl_X6_124 wi_X6_drops wv_X6_drops wz_RX6 wc_X6_drops rfl rfl (by decide +kernel) ⟨by decide, by decide⟩
    · exact fw_calV (ci := 6) (me_X6_ends l g B) (by decide) wl_X6_114 wi_X6_ends wv_X6_ends wz_RX6 wc_X6_ends rfl rfl (by decide +kernel) ⟨by decide, by decide⟩
  · exact fun q hq => nomatch hq
abbrev rm_X6_run : Room := { frames := 7, cells := 0, slots := 0, locals := 164 }
theorem me_X6_run (l : Launch) (g : fw_G) (B : Nat) : fw_Met l g B yX6_run cX6_run 3 (some .int) rm_X6_run 0 0 (ct_X6_run B) := by
  refine fw_met (own := RX6) (by decide +kernel) rfl kX6_run_ok kX6_run_cst fl_X6_ok ?_ ?_ (wk_X6_run B)
  · intro q hq
    simp only [cal_X6_run, List.mem_cons, List.not_mem_nil, or_false] at hq
    rcases hq with rfl | rfl | rfl | rfl | rfl | rfl
    · exact fw_calS (me_X6_in l g B) wl_X6_40 ws_X6_in wz_RX6 wc_X6_in rfl rfl (by decide +kernel) ⟨by decide, by decide⟩
    · exact fw_calV (ci := 6) (me_X6_fails l g B) (by decide) wl_X6_108 wi_X6_fails wv_X6_fails wz_RX6 wc_X6_fails rfl rfl (by decide +kernel) ⟨by decide, by decide⟩
    · exact fw_calV (ci := 6) (me_X6_hold l g B) (by decide) wl_X6_111 wi_X6_hold wv_X6_hold wz_RX6 wc_X6_hold rfl rfl (by decide +kernel) ⟨by decide, by decide⟩
    · exact fw_calV (ci := 6) (me_X6_inState l g B) (by decide) wl_X6_127 wi_X6_inState wv_X6_inState wz_RX6 wc_X6_inState rfl rfl (by decide +kernel) ⟨by decide, by decide⟩
    · exact fw_calV (ci := 6) (me_X6_ticks l g B) (by decide) wl_X6_130 wi_X6_ticks wv_X6_ticks wz_RX6 wc_X6_ticks rfl rfl (by decide +kernel) ⟨by decide, by decide⟩
    · exact fw_calV (ci := 6) (me_X6_ends l g B) (by decide) wl_X6_114 wi_X6_ends wv_X6_ends wz_RX6 wc_X6_ends rfl rfl (by decide +kernel) ⟨by decide, by decide⟩
  · exact fun q hq => nomatch hq
abbrev rm_X6_value : Room := { frames := 3, cells := 0, slots := 0, locals := 66 }
theorem me_X6_value (l : Launch) (g : fw_G) (B : Nat) : fw_Met l g B yX6_value cX6_value 2 (some .int) rm_X6_value 0 0 (ct_X6_value B) := by
  refine fw_met (own := RX6) (by decide +kernel) rfl kX6_value_ok kX6_value_cst fl_X6_ok ?_ ?_ (wk_X6_value B)
  · intro q hq
    simp only [cal_X6_value, List.mem_cons, List.not_mem_nil, or_false] at hq
    rcases hq with rfl | rfl | rfl | rfl
    · exact fw_calS (me_X6_in l g B) wl_X6_40 ws_X6_in wz_RX6 wc_X6_in rfl rfl (by decide +kernel) ⟨by decide, by decide⟩
    · exact fw_calV (ci := 6) (me_X6_valueOf l g B) (by decide) wl_X6_133 wi_X6_valueOf wv_X6_valueOf wz_RX6 wc_X6_valueOf rfl rfl (by decide +kernel) ⟨by decide, by decide⟩
    · exact fw_calV (ci := 6) (me_X6_tells l g B) (by decide) wl_X6_36 wi_X6_tells wv_X6_tells wz_RX6 wc_X6_tells rfl rfl (by decide +kernel) ⟨by decide, by decide⟩
    · exact fw_calV (ci := 6) (me_X6_fails l g B) (by decide) wl_X6_108 wi_X6_fails wv_X6_fails wz_RX6 wc_X6_fails rfl rfl (by decide +kernel) ⟨by decide, by decide⟩
  · exact fun q hq => nomatch hq
abbrev rm_X6_courier : Room := { frames := 2, cells := 0, slots := 0, locals := 46 }
theorem me_X6_courier (l : Launch) (g : fw_G) (B : Nat) : fw_Met l g B yX6_courier cX6_courier 3 (some .int) rm_X6_courier 0 0 (ct_X6_courier B) := by
  refine fw_met (own := RX6) (by decide +kernel) rfl kX6_courier_ok kX6_courier_cst fl_X6_ok ?_ ?_ (wk_X6_courier B)
  · intro q hq
    simp only [cal_X6_courier, List.mem_cons, List.not_mem_nil, or_false] at hq
    rcases hq with rfl | rfl | rfl | rfl | rfl
    · exact fw_calV (ci := 6) (me_X6_isCourier l g B) (by decide) wl_X6_117 wi_X6_isCourier wv_X6_isCourier wz_RX6 wc_X6_isCourier rfl rfl (by decide +kernel) ⟨by decide, by decide⟩
    · exact fw_calV (ci := 6) (me_X6_fails l g B) (by decide) wl_X6_108 wi_X6_fails wv_X6_fails wz_RX6 wc_X6_fails rfl rfl (by decide +kernel) ⟨by decide, by decide⟩
    · exact fw_calS (me_X6_in l g B) wl_X6_40 ws_X6_in wz_RX6 wc_X6_in rfl rfl (by decide +kernel) ⟨by decide, by decide⟩
    · exact fw_calV (ci := 6) (me_X6_courierOf l g B) (by decide) wl_X6_136 wi_X6_courierOf wv_X6_courierOf wz_RX6 wc_X6_courierOf rfl rfl (by decide +kernel) ⟨by decide, by decide⟩
    · exact fw_calV (ci := 6) (me_X6_tells l g B) (by decide) wl_X6_36 wi_X6_tells wv_X6_tells wz_RX6 wc_X6_tells rfl rfl (by decide +kernel) ⟨by decide, by decide⟩
  · exact fun q hq => nomatch hq
abbrev rm_X6_parcel : Room := { frames := 3, cells := 0, slots := 0, locals := 67 }
theorem me_X6_parcel (l : Launch) (g : fw_G) (B : Nat) : fw_Met l g B yX6_parcel cX6_parcel 3 (some .int) rm_X6_parcel 0 0 (ct_X6_parcel B) := by
  refine fw_met (own := RX6) (by decide +kernel) rfl kX6_parcel_ok kX6_parcel_cst fl_X6_ok ?_ ?_ (wk_X6_parcel B)
  · intro q hq
    simp only [cal_X6_parcel, List.mem_cons, List.not_mem_nil, or_false] at hq
    rcases hq with rfl | rfl | rfl | rfl | rfl
    · exact fw_calV (ci := 6) (me_X6_isParcel l g B) (by decide) wl_X6_139 wi_X6_isParcel wv_X6_isParcel wz_RX6 wc_X6_isParcel rfl rfl (by decide +kernel) ⟨by decide, by decide⟩
    · exact fw_calV (ci := 6) (me_X6_fails l g B) (by decide) wl_X6_108 wi_X6_fails wv_X6_fails wz_RX6 wc_X6_fails rfl rfl (by decide +kernel) ⟨by decide, by decide⟩
    · exact fw_calS (me_X6_in l g B) wl_X6_40 ws_X6_in wz_RX6 wc_X6_in rfl rfl (by decide +kernel) ⟨by decide, by decide⟩
    · exact fw_calV (ci := 6) (me_X6_parcelOf l g B) (by decide) wl_X6_142 wi_X6_parcelOf wv_X6_parcelOf wz_RX6 wc_X6_parcelOf rfl rfl (by decide +kernel) ⟨by decide, by decide⟩
    · exact fw_calV (ci := 6) (me_X6_tells l g B) (by decide) wl_X6_36 wi_X6_tells wv_X6_tells wz_RX6 wc_X6_tells rfl rfl (by decide +kernel) ⟨by decide, by decide⟩
  · exact fun q hq => nomatch hq
abbrev rm_X6_legs : Room := { frames := 2, cells := 0, slots := 0, locals := 43 }
theorem me_X6_legs (l : Launch) (g : fw_G) (B : Nat) : fw_Met l g B yX6_legs cX6_legs 4 (some .int) rm_X6_legs 0 0 (ct_X6_legs B) := by
  refine fw_met (own := RX6) (by decide +kernel) rfl kX6_legs_ok kX6_legs_cst fl_X6_ok ?_ ?_ (wk_X6_legs B)
  · intro q hq
    simp only [cal_X6_legs, List.mem_cons, List.not_mem_nil, or_false] at hq
    rcases hq with rfl | rfl | rfl | rfl | rfl
    · exact fw_calV (ci := 6) (me_X6_isParcel l g B) (by decide) wl_X6_139 wi_X6_isParcel wv_X6_isParcel wz_RX6 wc_X6_isParcel rfl rfl (by decide +kernel) ⟨by decide, by decide⟩
    · exact fw_calV (ci := 6) (me_X6_isCourier l g B) (by decide) wl_X6_117 wi_X6_isCourier wv_X6_isCourier wz_RX6 wc_X6_isCourier rfl rfl (by decide +kernel) ⟨by decide, by decide⟩
    · exact fw_calV (ci := 6) (me_X6_fails l g B) (by decide) wl_X6_108 wi_X6_fails wv_X6_fails wz_RX6 wc_X6_fails rfl rfl (by decide +kernel) ⟨by decide, by decide⟩
    · exact fw_calV (ci := 6) (me_X6_its l g B) (by decide) wl_X6_52 wi_X6_its wv_X6_its wz_RX6 wc_X6_its rfl rfl (by decide +kernel) ⟨by decide, by decide⟩
    · exact fw_calV (ci := 6) (me_X6_tells l g B) (by decide) wl_X6_36 wi_X6_tells wv_X6_tells wz_RX6 wc_X6_tells rfl rfl (by decide +kernel) ⟨by decide, by decide⟩
  · exact fun q hq => nomatch hq
abbrev rm_X6_distance : Room := { frames := 2, cells := 0, slots := 0, locals := 42 }
theorem me_X6_distance (l : Launch) (g : fw_G) (B : Nat) : fw_Met l g B yX6_distance cX6_distance 3 (some .int) rm_X6_distance 0 0 (ct_X6_distance B) := by
  refine fw_met (own := RX6) (by decide +kernel) rfl kX6_distance_ok kX6_distance_cst fl_X6_ok ?_ ?_ (wk_X6_distance B)
  · intro q hq
    simp only [cal_X6_distance, List.mem_cons, List.not_mem_nil, or_false] at hq
    rcases hq with rfl | rfl | rfl | rfl
    · exact fw_calS (me_X6_isZone l g B) wl_X6_105 ws_X6_isZone wz_RX6 wc_X6_isZone rfl rfl (by decide +kernel) ⟨by decide, by decide⟩
    · exact fw_calV (ci := 6) (me_X6_fails l g B) (by decide) wl_X6_108 wi_X6_fails wv_X6_fails wz_RX6 wc_X6_fails rfl rfl (by decide +kernel) ⟨by decide, by decide⟩
    · exact fw_calS (me_X6_apart l g B) wl_X6_145 ws_X6_apart wz_RX6 wc_X6_apart rfl rfl (by decide +kernel) ⟨by decide, by decide⟩
    · exact fw_calV (ci := 6) (me_X6_tells l g B) (by decide) wl_X6_36 wi_X6_tells wv_X6_tells wz_RX6 wc_X6_tells rfl rfl (by decide +kernel) ⟨by decide, by decide⟩
  · exact fun q hq => nomatch hq
abbrev rm_X6_suited : Room := { frames := 3, cells := 0, slots := 0, locals := 66 }
theorem me_X6_suited (l : Launch) (g : fw_G) (B : Nat) : fw_Met l g B yX6_suited cX6_suited 4 (some .int) rm_X6_suited 0 0 (ct_X6_suited B) := by
  refine fw_met (own := RX6) (by decide +kernel) rfl kX6_suited_ok kX6_suited_cst fl_X6_ok ?_ ?_ (wk_X6_suited B)
  · intro q hq
    simp only [cal_X6_suited, List.mem_cons, List.not_mem_nil, or_false] at hq
    rcases hq with rfl | rfl | rfl | rfl | rfl
    · exact fw_calV (ci := 6) (me_X6_isParcel l g B) (by decide) wl_X6_139 wi_X6_isParcel wv_X6_isParcel wz_RX6 wc_X6_isParcel rfl rfl (by decide +kernel) ⟨by decide, by decide⟩
    · exact fw_calV (ci := 6) (me_X6_fails l g B) (by decide) wl_X6_108 wi_X6_fails wv_X6_fails wz_RX6 wc_X6_fails rfl rfl (by decide +kernel) ⟨by decide, by decide⟩
    · exact fw_calV (ci := 6) (me_X6_its l g B) (by decide) wl_X6_52 wi_X6_its wv_X6_its wz_RX6 wc_X6_its rfl rfl (by decide +kernel) ⟨by decide, by decide⟩
    · exact fw_calV (ci := 6) (me_X6_suits l g B) (by decide) wl_X6_79 wi_X6_suits wv_X6_suits wz_RX6 wc_X6_suits rfl rfl (by decide +kernel) ⟨by decide, by decide⟩
    · exact fw_calV (ci := 6) (me_X6_tells l g B) (by decide) wl_X6_36 wi_X6_tells wv_X6_tells wz_RX6 wc_X6_tells rfl rfl (by decide +kernel) ⟨by decide, by decide⟩
  · exact fun q hq => nomatch hq
abbrev rm_X6_leastRelay : Room := { frames := 4, cells := 0, slots := 0, locals := 96 }
theorem me_X6_leastRelay (l : Launch) (g : fw_G) (B : Nat) : fw_Met l g B yX6_leastRelay cX6_leastRelay 2 (some .int) rm_X6_leastRelay 0 0 (ct_X6_leastRelay B) := by
  refine fw_met (own := RX6) (by decide +kernel) rfl kX6_leastRelay_ok kX6_leastRelay_cst fl_X6_ok ?_ ?_ (wk_X6_leastRelay B)
  · intro q hq
    simp only [cal_X6_leastRelay, List.mem_cons, List.not_mem_nil, or_false] at hq
    rcases hq with rfl | rfl | rfl | rfl
    · exact fw_calV (ci := 6) (me_X6_isParcel l g B) (by decide) wl_X6_139 wi_X6_isParcel wv_X6_isParcel wz_RX6 wc_X6_isParcel rfl rfl (by decide +kernel) ⟨by decide, by decide⟩
    · exact fw_calV (ci := 6) (me_X6_relays l g B) (by decide) wl_X6_152 wi_X6_relays wv_X6_relays wz_RX6 wc_X6_relays rfl rfl (by decide +kernel) ⟨by decide, by decide⟩
    · exact fw_calV (ci := 6) (me_X6_tells l g B) (by decide) wl_X6_36 wi_X6_tells wv_X6_tells wz_RX6 wc_X6_tells rfl rfl (by decide +kernel) ⟨by decide, by decide⟩
    · exact fw_calV (ci := 6) (me_X6_fails l g B) (by decide) wl_X6_108 wi_X6_fails wv_X6_fails wz_RX6 wc_X6_fails rfl rfl (by decide +kernel) ⟨by decide, by decide⟩
  · exact fun q hq => nomatch hq
abbrev rm_X6_punctuality : Room := { frames := 1, cells := 0, slots := 0, locals := 22 }
theorem me_X6_punctuality (l : Launch) (g : fw_G) (B : Nat) : fw_Met l g B yX6_punctuality cX6_punctuality 4 (some .double) rm_X6_punctuality 0 0 (ct_X6_punctuality B) := by
  refine fw_met (own := RX6) (by decide +kernel) rfl kX6_punctuality_ok kX6_punctuality_cst fl_X6_ok ?_ ?_ (wk_X6_punctuality B)
  · intro q hq
    simp only [cal_X6_punctuality, List.mem_cons, List.not_mem_nil, or_false] at hq
    rcases hq with rfl
    · exact fw_calV (ci := 6) (me_X6_its l g B) (by decide) wl_X6_52 wi_X6_its wv_X6_its wz_RX6 wc_X6_its rfl rfl (by decide +kernel) ⟨by decide, by decide⟩
  · exact fun q hq => nomatch hq
abbrev rm_X6_paidIn : Room := { frames := 9, cells := 0, slots := 0, locals := 208 }
theorem me_X6_paidIn (l : Launch) (g : fw_G) (B : Nat) : fw_Met l g B yX6_paidIn cX6_paidIn 2 (some .int) rm_X6_paidIn 0 0 (ct_X6_paidIn B) := by
  refine fw_met (own := RX6) (by decide +kernel) rfl kX6_paidIn_ok kX6_paidIn_cst fl_X6_ok ?_ ?_ (wk_X6_paidIn B)
  · intro q hq
    simp only [cal_X6_paidIn, List.mem_cons, List.not_mem_nil, or_false] at hq
    rcases hq with rfl | rfl | rfl | rfl
    · exact fw_calS (me_X6_isMany l g B) wl_X6_158 ws_X6_isMany wz_RX6 wc_X6_isMany rfl rfl (by decide +kernel) ⟨by decide, by decide⟩
    · exact fw_calV (ci := 6) (me_X6_paidBy l g B) (by decide) wl_X6_161 wi_X6_paidBy wv_X6_paidBy wz_RX6 wc_X6_paidBy rfl rfl (by decide +kernel) ⟨by decide, by decide⟩
    · exact fw_calV (ci := 6) (me_X6_tells l g B) (by decide) wl_X6_36 wi_X6_tells wv_X6_tells wz_RX6 wc_X6_tells rfl rfl (by decide +kernel) ⟨by decide, by decide⟩
    · exact fw_calV (ci := 6) (me_X6_fails l g B) (by decide) wl_X6_108 wi_X6_fails wv_X6_fails wz_RX6 wc_X6_fails rfl rfl (by decide +kernel) ⟨by decide, by decide⟩
  · exact fun q hq => nomatch hq
abbrev rm_X6_bestZone : Room := { frames := 9, cells := 0, slots := 0, locals := 208 }
theorem me_X6_bestZone (l : Launch) (g : fw_G) (B : Nat) : fw_Met l g B yX6_bestZone cX6_bestZone 7 (some .int) rm_X6_bestZone 0 0 (ct_X6_bestZone B) := by
  refine fw_met (own := RX6) (by decide +kernel) rfl kX6_bestZone_ok kX6_bestZone_cst fl_X6_ok ?_ ?_ (wk_X6_bestZone B)
  · intro q hq
    simp only [cal_X6_bestZone, List.mem_cons, List.not_mem_nil, or_false] at hq
    rcases hq with rfl | rfl | rfl | rfl | rfl | rfl | rfl | rfl | rfl
    · exact fw_calV (ci := 6) (me_X6_isCourier l g B) (by decide) wl_X6_117 wi_X6_isCourier wv_X6_isCourier wz_RX6 wc_X6_isCourier rfl rfl (by decide +kernel) ⟨by decide, by decide⟩
    · exact fw_calV (ci := 6) (me_X6_fails l g B) (by decide) wl_X6_108 wi_X6_fails wv_X6_fails wz_RX6 wc_X6_fails rfl rfl (by decide +kernel) ⟨by decide, by decide⟩
    · exact fw_calS (me_X6_isMany l g B) wl_X6_158 ws_X6_isMany wz_RX6 wc_X6_isMany rfl rfl (by decide +kernel) ⟨by decide, by decide⟩
    · exact fw_calV (ci := 6) (me_X6_paidBy l g B) (by decide) wl_X6_161 wi_X6_paidBy wv_X6_paidBy wz_RX6 wc_X6_paidBy rfl rfl (by decide +kernel) ⟨by decide, by decide⟩
    · exact fw_calV (ci := 6) (me_X6_isIn l g B) (by decide) wl_X6_55 wi_X6_isIn wv_X6_isIn wz_RX6 wc_X6_isIn rfl rfl (by decide +kernel) ⟨by decide, by decide⟩
    · exact fw_calV (ci := 6) (me_X6_of l g B) (by decide) wl_X6_44 wi_X6_of wv_X6_of wz_RX6 wc_X6_of rfl rfl (by decide +kernel) ⟨by decide, by decide⟩
    · exact fw_calV (ci := 6) (me_X6_sets l g B) (by decide) wl_X6_48 wi_X6_sets wv_X6_sets wz_RX6 wc_X6_sets rfl rfl (by decide +kernel) ⟨by decide, by decide⟩
    · exact fw_calV (ci := 6) (me_X6_more l g B) (by decide) wl_X6_155 wi_X6_more wv_X6_more wz_RX6 wc_X6_more rfl rfl (by decide +kernel) ⟨by decide, by decide⟩
    · exact fw_calV (ci := 6) (me_X6_tells l g B) (by decide) wl_X6_36 wi_X6_tells wv_X6_tells wz_RX6 wc_X6_tells rfl rfl (by decide +kernel) ⟨by decide, by decide⟩
  · exact fun q hq => nomatch hq
abbrev rm_X6_worth : Room := { frames := 9, cells := 0, slots := 0, locals := 208 }
theorem me_X6_worth (l : Launch) (g : fw_G) (B : Nat) : fw_Met l g B yX6_worth cX6_worth 4 (some .int) rm_X6_worth 0 0 (ct_X6_worth B) := by
  refine fw_met (own := RX6) (by decide +kernel) rfl kX6_worth_ok kX6_worth_cst fl_X6_ok ?_ ?_ (wk_X6_worth B)
  · intro q hq
    simp only [cal_X6_worth, List.mem_cons, List.not_mem_nil, or_false] at hq
    rcases hq with rfl | rfl | rfl | rfl | rfl | rfl | rfl | rfl
    · exact fw_calV (ci := 6) (me_X6_isCourier l g B) (by decide) wl_X6_117 wi_X6_isCourier wv_X6_isCourier wz_RX6 wc_X6_isCourier rfl rfl (by decide +kernel) ⟨by decide, by decide⟩
    · exact fw_calV (ci := 6) (me_X6_fails l g B) (by decide) wl_X6_108 wi_X6_fails wv_X6_fails wz_RX6 wc_X6_fails rfl rfl (by decide +kernel) ⟨by decide, by decide⟩
    · exact fw_calS (me_X6_isMany l g B) wl_X6_158 ws_X6_isMany wz_RX6 wc_X6_isMany rfl rfl (by decide +kernel) ⟨by decide, by decide⟩
    · exact fw_calV (ci := 6) (me_X6_paidBy l g B) (by decide) wl_X6_161 wi_X6_paidBy wv_X6_paidBy wz_RX6 wc_X6_paidBy rfl rfl (by decide +kernel) ⟨by decide, by decide⟩
    · exact fw_calV (ci := 6) (me_X6_drops l g B) (by decide) wl_X6_124 wi_X6_drops wv_X6_drops wz_RX6 wc_X6_drops rfl rfl (by decide +kernel) ⟨by decide, by decide⟩
    · exact fw_calV (ci := 6) (me_X6_sets l g B) (by decide) wl_X6_48 wi_X6_sets wv_X6_sets wz_RX6 wc_X6_sets rfl rfl (by decide +kernel) ⟨by decide, by decide⟩
    · exact fw_calV (ci := 6) (me_X6_more l g B) (by decide) wl_X6_155 wi_X6_more wv_X6_more wz_RX6 wc_X6_more rfl rfl (by decide +kernel) ⟨by decide, by decide⟩
    · exact fw_calV (ci := 6) (me_X6_tells l g B) (by decide) wl_X6_36 wi_X6_tells wv_X6_tells wz_RX6 wc_X6_tells rfl rfl (by decide +kernel) ⟨by decide, by decide⟩
  · exact fun q hq => nomatch hq
abbrev rm_X6_doneIn : Room := { frames := 6, cells := 0, slots := 0, locals := 142 }
theorem me_X6_doneIn (l : Launch) (g : fw_G) (B : Nat) : fw_Met l g B yX6_doneIn cX6_doneIn 3 (some .int) rm_X6_doneIn 0 0 (ct_X6_doneIn B) := by
  refine fw_met (own := RX6) (by decide +kernel) rfl kX6_doneIn_ok kX6_doneIn_cst fl_X6_ok ?_ ?_ (wk_X6_doneIn B)
  · intro q hq
    simp only [cal_X6_doneIn, List.mem_cons, List.not_mem_nil, or_false] at hq
    rcases hq with rfl | rfl | rfl | rfl
    · exact fw_calS (me_X6_copies l g B) wl_X6_29 ws_X6_copies wz_RX6 wc_X6_copies rfl rfl (by decide +kernel) ⟨by decide, by decide⟩
    · exact fw_calV (ci := 6) (me_X6_isDone l g B) (by decide) wl_X6_164 wi_X6_isDone wv_X6_isDone wz_RX6 wc_X6_isDone rfl rfl (by decide +kernel) ⟨by decide, by decide⟩
    · exact fw_calV (ci := 6) (me_X6_tick l g B) (by decide) wl_X6_97 wi_X6_tick wv_X6_tick wz_RX6 wc_X6_tick rfl rfl (by decide +kernel) ⟨by decide, by decide⟩
    · exact fw_calV (ci := 6) (me_X6_tells l g B) (by decide) wl_X6_36 wi_X6_tells wv_X6_tells wz_RX6 wc_X6_tells rfl rfl (by decide +kernel) ⟨by decide, by decide⟩
  · exact fun q hq => nomatch hq
abbrev rm_X6_append : Room := { frames := 1, cells := 0, slots := 0, locals := 22 }
theorem me_X6_append (l : Launch) (g : fw_G) (B : Nat) : fw_Met l g B yX6_append cX6_append 2 (some .int) rm_X6_append 0 0 (ct_X6_append B) := by
  refine fw_met (own := RX6) (by decide +kernel) rfl kX6_append_ok kX6_append_cst fl_X6_ok ?_ ?_ (wk_X6_append B)
  · intro q hq
    simp only [cal_X6_append, List.mem_cons, List.not_mem_nil, or_false] at hq
    rcases hq with rfl | rfl | rfl
    · exact fw_calS (me_X6_in l g B) wl_X6_40 ws_X6_in wz_RX6 wc_X6_in rfl rfl (by decide +kernel) ⟨by decide, by decide⟩
    · exact fw_calV (ci := 6) (me_X6_fails l g B) (by decide) wl_X6_108 wi_X6_fails wv_X6_fails wz_RX6 wc_X6_fails rfl rfl (by decide +kernel) ⟨by decide, by decide⟩
    · exact fw_calV (ci := 6) (me_X6_tells l g B) (by decide) wl_X6_36 wi_X6_tells wv_X6_tells wz_RX6 wc_X6_tells rfl rfl (by decide +kernel) ⟨by decide, by decide⟩
  · exact fun q hq => nomatch hq
abbrev rm_X6_clearText : Room := { frames := 1, cells := 0, slots := 0, locals := 21 }
theorem me_X6_clearText (l : Launch) (g : fw_G) (B : Nat) : fw_Met l g B yX6_clearText cX6_clearText 2 (some .int) rm_X6_clearText 0 0 (ct_X6_clearText B) := by
  refine fw_met (own := RX6) (by decide +kernel) rfl kX6_clearText_ok kX6_clearText_cst fl_X6_ok ?_ ?_ (wk_X6_clearText B)
  · intro q hq
    simp only [cal_X6_clearText, List.mem_cons, List.not_mem_nil, or_false] at hq
    rcases hq with rfl
    · exact fw_calV (ci := 6) (me_X6_tells l g B) (by decide) wl_X6_36 wi_X6_tells wv_X6_tells wz_RX6 wc_X6_tells rfl rfl (by decide +kernel) ⟨by decide, by decide⟩
  · exact fun q hq => nomatch hq
abbrev rm_X6_undo : Room := { frames := 1, cells := 0, slots := 0, locals := 21 }
theorem me_X6_undo (l : Launch) (g : fw_G) (B : Nat) : fw_Met l g B yX6_undo cX6_undo 2 (some .int) rm_X6_undo 0 0 (ct_X6_undo B) := by
  refine fw_met (own := RX6) (by decide +kernel) rfl kX6_undo_ok kX6_undo_cst fl_X6_ok ?_ ?_ (wk_X6_undo B)
  · intro q hq
    simp only [cal_X6_undo, List.mem_cons, List.not_mem_nil, or_false] at hq
    rcases hq with rfl | rfl
    · exact fw_calV (ci := 6) (me_X6_fails l g B) (by decide) wl_X6_108 wi_X6_fails wv_X6_fails wz_RX6 wc_X6_fails rfl rfl (by decide +kernel) ⟨by decide, by decide⟩
    · exact fw_calV (ci := 6) (me_X6_tells l g B) (by decide) wl_X6_36 wi_X6_tells wv_X6_tells wz_RX6 wc_X6_tells rfl rfl (by decide +kernel) ⟨by decide, by decide⟩
  · exact fun q hq => nomatch hq
abbrev rm_X6_isAt : Room := { frames := 1, cells := 0, slots := 0, locals := 22 }
theorem me_X6_isAt (l : Launch) (g : fw_G) (B : Nat) : fw_Met l g B yX6_isAt cX6_isAt 3 (some .boolean) rm_X6_isAt 0 0 (ct_X6_isAt B) := by
  refine fw_met (own := RX6) (by decide +kernel) rfl kX6_isAt_ok kX6_isAt_cst fl_X6_ok ?_ ?_ (wk_X6_isAt B)
  · intro q hq
    simp only [cal_X6_isAt, List.mem_cons, List.not_mem_nil, or_false] at hq
    rcases hq with rfl
    · exact fw_calS (me_X6_in l g B) wl_X6_40 ws_X6_in wz_RX6 wc_X6_in rfl rfl (by decide +kernel) ⟨by decide, by decide⟩
  · exact fun q hq => nomatch hq
abbrev rm_X6_isNumber : Room := { frames := 2, cells := 0, slots := 0, locals := 44 }
theorem me_X6_isNumber (l : Launch) (g : fw_G) (B : Nat) : fw_Met l g B yX6_isNumber cX6_isNumber 8 (some .boolean) rm_X6_isNumber 0 0 (ct_X6_isNumber B) := by
  refine fw_met (own := RX6) (by decide +kernel) rfl kX6_isNumber_ok kX6_isNumber_cst fl_X6_ok ?_ ?_ (wk_X6_isNumber B)
  · intro q hq
    simp only [cal_X6_isNumber, List.mem_cons, List.not_mem_nil, or_false] at hq
    rcases hq with rfl | rfl
    · exact fw_calV (ci := 6) (me_X6_isAt l g B) (by decide) wl_X6_177 wi_X6_isAt wv_X6_isAt wz_RX6 wc_X6_isAt rfl rfl (by decide +kernel) ⟨by decide, by decide⟩
    · exact fw_calS (me_X6_in l g B) wl_X6_40 ws_X6_in wz_RX6 wc_X6_in rfl rfl (by decide +kernel) ⟨by decide, by decide⟩
  · exact fun q hq => nomatch hq
abbrev rm_X6_isItem : Room := { frames := 3, cells := 0, slots := 0, locals := 71 }
theorem me_X6_isItem (l : Launch) (g : fw_G) (B : Nat) : fw_Met l g B yX6_isItem cX6_isItem 4 (some .boolean) rm_X6_isItem 0 0 (ct_X6_isItem B) := by
  refine fw_met (own := RX6) (by decide +kernel) rfl kX6_isItem_ok kX6_isItem_cst fl_X6_ok ?_ ?_ (wk_X6_isItem B)
  · intro q hq
    simp only [cal_X6_isItem, List.mem_cons, List.not_mem_nil, or_false] at hq
    rcases hq with rfl | rfl
    · exact fw_calV (ci := 6) (me_X6_isNumber l g B) (by decide) wl_X6_180 wi_X6_isNumber wv_X6_isNumber wz_RX6 wc_X6_isNumber rfl rfl (by decide +kernel) ⟨by decide, by decide⟩
    · exact fw_calV (ci := 6) (me_X6_comes l g B) (by decide) wl_X6_120 wi_X6_comes wv_X6_comes wz_RX6 wc_X6_comes rfl rfl (by decide +kernel) ⟨by decide, by decide⟩
  · exact fun q hq => nomatch hq
abbrev rm_X6_parse : Room := { frames := 4, cells := 0, slots := 0, locals := 94 }
theorem me_X6_parse (l : Launch) (g : fw_G) (B : Nat) : fw_Met l g B yX6_parse cX6_parse 1 (some .int) rm_X6_parse 0 0 (ct_X6_parse B) := by
  refine fw_met (own := RX6) (by decide +kernel) rfl kX6_parse_ok kX6_parse_cst fl_X6_ok ?_ ?_ (wk_X6_parse B)
  · intro q hq
    simp only [cal_X6_parse, List.mem_cons, List.not_mem_nil, or_false] at hq
    rcases hq with rfl | rfl | rfl | rfl
    · exact fw_calV (ci := 6) (me_X6_hold l g B) (by decide) wl_X6_111 wi_X6_hold wv_X6_hold wz_RX6 wc_X6_hold rfl rfl (by decide +kernel) ⟨by decide, by decide⟩
    · exact fw_calV (ci := 6) (me_X6_isItem l g B) (by decide) wl_X6_184 wi_X6_isItem wv_X6_isItem wz_RX6 wc_X6_isItem rfl rfl (by decide +kernel) ⟨by decide, by decide⟩
    · exact fw_calS (me_X6_copies l g B) wl_X6_29 ws_X6_copies wz_RX6 wc_X6_copies rfl rfl (by decide +kernel) ⟨by decide, by decide⟩
    · exact fw_calV (ci := 6) (me_X6_ends l g B) (by decide) wl_X6_114 wi_X6_ends wv_X6_ends wz_RX6 wc_X6_ends rfl rfl (by decide +kernel) ⟨by decide, by decide⟩
  · exact fun q hq => nomatch hq
abbrev rm_X6_mix : Room := { frames := 0, cells := 0, slots := 0, locals := 0 }
theorem me_X6_mix (l : Launch) (g : fw_G) (B : Nat) : fw_Met l g B yX6_mix cX6_mix 2 (none) rm_X6_mix 0 0 (ct_X6_mix B) := by
  refine fw_met (own := RX6) (by decide +kernel) rfl kX6_mix_ok kX6_mix_cst fl_X6_ok ?_ ?_ (wk_X6_mix B)
  · intro q hq
    simp only [cal_X6_mix, List.mem_cons, List.not_mem_nil, or_false] at hq
  · exact fun q hq => nomatch hq
abbrev rm_X6_digest : Room := { frames := 3, cells := 0, slots := 0, locals := 67 }
theorem me_X6_digest (l : Launch) (g : fw_G) (B : Nat) : fw_Met l g B yX6_digest cX6_digest 3 (some .long) rm_X6_digest 0 0 (ct_X6_digest B) := by
  refine fw_met (own := RX6) (by decide +kernel) rfl kX6_digest_ok kX6_digest_cst fl_X6_ok ?_ ?_ (wk_X6_digest B)
  · intro q hq
    simp only [cal_X6_digest, List.mem_cons, List.not_mem_nil, or_false] at hq
    rcases hq with rfl | rfl | rfl | rfl | rfl
    · exact fw_calV (ci := 6) (me_X6_mix l g B) (by decide) wl_X6_195 wi_X6_mix wv_X6_mix wz_RX6 wc_X6_mix rfl rfl (by decide +kernel) ⟨by decide, by decide⟩
    · exact fw_calV (ci := 6) (me_X6_valueOf l g B) (by decide) wl_X6_133 wi_X6_valueOf wv_X6_valueOf wz_RX6 wc_X6_valueOf rfl rfl (by decide +kernel) ⟨by decide, by decide⟩
    · exact fw_calV (ci := 6) (me_X6_courierOf l g B) (by decide) wl_X6_136 wi_X6_courierOf wv_X6_courierOf wz_RX6 wc_X6_courierOf rfl rfl (by decide +kernel) ⟨by decide, by decide⟩
    · exact fw_calV (ci := 6) (me_X6_parcelOf l g B) (by decide) wl_X6_142 wi_X6_parcelOf wv_X6_parcelOf wz_RX6 wc_X6_parcelOf rfl rfl (by decide +kernel) ⟨by decide, by decide⟩
    · exact fw_calV (ci := 6) (me_X6_its l g B) (by decide) wl_X6_52 wi_X6_its wv_X6_its wz_RX6 wc_X6_its rfl rfl (by decide +kernel) ⟨by decide, by decide⟩
  · exact fun q hq => nomatch hq
end
end
