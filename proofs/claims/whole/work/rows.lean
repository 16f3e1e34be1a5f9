section
-- ===== PART A: goes FIRST, ahead of the names: the tables' words, and 'selects' of the private methods out of them =====
/-- a private method of a class that the tables say can be made, by its rows of tables_1 -/
def lw_okq (q : MethodName × Nat) : Prop := (q.1.cls ≠ "java/lang/invoke/MethodHandle" ∧ q.1.cls ≠ "java/lang/invoke/VarHandle") ∧ Cond.instantiable q.1.cls q.2 ∈ tables_1 ∧ Cond.privateMethod q.1 ∈ tables_1 ∧ Cond.instanceMethod q.1 ∈ tables_1
theorem lw_p0 : lw_okq (⟨"SigmaDesk", "isFull", "()Z"⟩, 10) := ⟨⟨by decide +kernel, by decide +kernel⟩, List.mem_of_getElem? (i := 13) (by decide +kernel), List.mem_of_getElem? (i := 94) (by decide +kernel), List.mem_of_getElem? (i := 95) (by decide +kernel)⟩
theorem lw_p1 : lw_okq (⟨"SigmaDesk", "push", "(LSigmaDesk$Statement;)V"⟩, 10) := ⟨⟨by decide +kernel, by decide +kernel⟩, List.mem_of_getElem? (i := 13) (by decide +kernel), List.mem_of_getElem? (i := 134) (by decide +kernel), List.mem_of_getElem? (i := 135) (by decide +kernel)⟩
theorem lw_p2 : lw_okq (⟨"SigmaDesk", "drop", "()V"⟩, 10) := ⟨⟨by decide +kernel, by decide +kernel⟩, List.mem_of_getElem? (i := 13) (by decide +kernel), List.mem_of_getElem? (i := 146) (by decide +kernel), List.mem_of_getElem? (i := 147) (by decide +kernel)⟩
theorem lw_p3 : lw_okq (⟨"SigmaDesk", "isLeaf", "(I)Z"⟩, 10) := ⟨⟨by decide +kernel, by decide +kernel⟩, List.mem_of_getElem? (i := 13) (by decide +kernel), List.mem_of_getElem? (i := 221) (by decide +kernel), List.mem_of_getElem? (i := 222) (by decide +kernel)⟩
theorem lw_p4 : lw_okq (⟨"SigmaDesk", "isAccepted", "(LSigmaDesk$Transcript;)Z"⟩, 10) := ⟨⟨by decide +kernel, by decide +kernel⟩, List.mem_of_getElem? (i := 13) (by decide +kernel), List.mem_of_getElem? (i := 353) (by decide +kernel), List.mem_of_getElem? (i := 354) (by decide +kernel)⟩
theorem lw_p5 : lw_okq (⟨"SigmaDesk", "isPart", "(II)Z"⟩, 10) := ⟨⟨by decide +kernel, by decide +kernel⟩, List.mem_of_getElem? (i := 13) (by decide +kernel), List.mem_of_getElem? (i := 383) (by decide +kernel), List.mem_of_getElem? (i := 384) (by decide +kernel)⟩
theorem lw_p6 : lw_okq (⟨"SigmaDesk", "sameCommitments", "()Z"⟩, 10) := ⟨⟨by decide +kernel, by decide +kernel⟩, List.mem_of_getElem? (i := 13) (by decide +kernel), List.mem_of_getElem? (i := 412) (by decide +kernel), List.mem_of_getElem? (i := 413) (by decide +kernel)⟩
theorem lw_p7 : lw_okq (⟨"SigmaDesk", "givenAway", "(I)I"⟩, 10) := ⟨⟨by decide +kernel, by decide +kernel⟩, List.mem_of_getElem? (i := 13) (by decide +kernel), List.mem_of_getElem? (i := 416) (by decide +kernel), List.mem_of_getElem? (i := 417) (by decide +kernel)⟩
theorem lw_p8 : lw_okq (⟨"SigmaDeskModel", "push", "(IIIII)V"⟩, 34) := ⟨⟨by decide +kernel, by decide +kernel⟩, List.mem_of_getElem? (i := 421) (by decide +kernel), List.mem_of_getElem? (i := 554) (by decide +kernel), List.mem_of_getElem? (i := 555) (by decide +kernel)⟩
theorem lw_p9 : lw_okq (⟨"SigmaDeskModel", "isLeaf", "(I)Z"⟩, 34) := ⟨⟨by decide +kernel, by decide +kernel⟩, List.mem_of_getElem? (i := 421) (by decide +kernel), List.mem_of_getElem? (i := 578) (by decide +kernel), List.mem_of_getElem? (i := 579) (by decide +kernel)⟩
theorem lw_p10 : lw_okq (⟨"SigmaDeskModel", "isPair", "(II)Z"⟩, 34) := ⟨⟨by decide +kernel, by decide +kernel⟩, List.mem_of_getElem? (i := 421) (by decide +kernel), List.mem_of_getElem? (i := 582) (by decide +kernel), List.mem_of_getElem? (i := 583) (by decide +kernel)⟩
theorem lw_p11 : lw_okq (⟨"SigmaDeskModel", "know", "()V"⟩, 34) := ⟨⟨by decide +kernel, by decide +kernel⟩, List.mem_of_getElem? (i := 421) (by decide +kernel), List.mem_of_getElem? (i := 594) (by decide +kernel), List.mem_of_getElem? (i := 595) (by decide +kernel)⟩
theorem lw_p12 : lw_okq (⟨"SigmaDeskModel", "commitTree", "(ZII)V"⟩, 34) := ⟨⟨by decide +kernel, by decide +kernel⟩, List.mem_of_getElem? (i := 421) (by decide +kernel), List.mem_of_getElem? (i := 603) (by decide +kernel), List.mem_of_getElem? (i := 604) (by decide +kernel)⟩
theorem lw_p13 : lw_okq (⟨"SigmaDeskModel", "later", "(IZI)V"⟩, 34) := ⟨⟨by decide +kernel, by decide +kernel⟩, List.mem_of_getElem? (i := 421) (by decide +kernel), List.mem_of_getElem? (i := 607) (by decide +kernel), List.mem_of_getElem? (i := 608) (by decide +kernel)⟩
theorem lw_p14 : lw_okq (⟨"SigmaDeskModel", "commitLeaf", "(IZI)V"⟩, 34) := ⟨⟨by decide +kernel, by decide +kernel⟩, List.mem_of_getElem? (i := 421) (by decide +kernel), List.mem_of_getElem? (i := 611) (by decide +kernel), List.mem_of_getElem? (i := 612) (by decide +kernel)⟩
theorem lw_p15 : lw_okq (⟨"SigmaDeskModel", "draw", "()I"⟩, 34) := ⟨⟨by decide +kernel, by decide +kernel⟩, List.mem_of_getElem? (i := 421) (by decide +kernel), List.mem_of_getElem? (i := 615) (by decide +kernel), List.mem_of_getElem? (i := 616) (by decide +kernel)⟩
def lw_privs_1 : List (MethodName × Nat) := [(⟨"SigmaDesk", "isFull", "()Z"⟩, 10), (⟨"SigmaDesk", "push", "(LSigmaDesk$Statement;)V"⟩, 10), (⟨"SigmaDesk", "drop", "()V"⟩, 10), (⟨"SigmaDesk", "isLeaf", "(I)Z"⟩, 10), (⟨"SigmaDesk", "isAccepted", "(LSigmaDesk$Transcript;)Z"⟩, 10), (⟨"SigmaDesk", "isPart", "(II)Z"⟩, 10), (⟨"SigmaDesk", "sameCommitments", "()Z"⟩, 10), (⟨"SigmaDesk", "givenAway", "(I)I"⟩, 10), (⟨"SigmaDeskModel", "push", "(IIIII)V"⟩, 34), (⟨"SigmaDeskModel", "isLeaf", "(I)Z"⟩, 34), (⟨"SigmaDeskModel", "isPair", "(II)Z"⟩, 34), (⟨"SigmaDeskModel", "know", "()V"⟩, 34), (⟨"SigmaDeskModel", "commitTree", "(ZII)V"⟩, 34), (⟨"SigmaDeskModel", "later", "(IZI)V"⟩, 34), (⟨"SigmaDeskModel", "commitLeaf", "(IZI)V"⟩, 34), (⟨"SigmaDeskModel", "draw", "()I"⟩, 34)]
theorem lw_r1 : ∀ q ∈ lw_privs_1, lw_okq q := List.forall_mem_cons.mpr ⟨lw_p0, List.forall_mem_cons.mpr ⟨lw_p1, List.forall_mem_cons.mpr ⟨lw_p2, List.forall_mem_cons.mpr ⟨lw_p3, List.forall_mem_cons.mpr ⟨lw_p4, List.forall_mem_cons.mpr ⟨lw_p5, List.forall_mem_cons.mpr ⟨lw_p6, List.forall_mem_cons.mpr ⟨lw_p7, List.forall_mem_cons.mpr ⟨lw_p8, List.forall_mem_cons.mpr ⟨lw_p9, List.forall_mem_cons.mpr ⟨lw_p10, List.forall_mem_cons.mpr ⟨lw_p11, List.forall_mem_cons.mpr ⟨lw_p12, List.forall_mem_cons.mpr ⟨lw_p13, List.forall_mem_cons.mpr ⟨lw_p14, List.forall_mem_cons.mpr ⟨lw_p15, fun _ h => absurd h List.not_mem_nil⟩⟩⟩⟩⟩⟩⟩⟩⟩⟩⟩⟩⟩⟩⟩⟩
theorem lw_p16 : lw_okq (⟨"SigmaDeskModel", "commitOr", "(IZI)V"⟩, 34) := ⟨⟨by decide +kernel, by decide +kernel⟩, List.mem_of_getElem? (i := 421) (by decide +kernel), List.mem_of_getElem? (i := 620) (by decide +kernel), List.mem_of_getElem? (i := 621) (by decide +kernel)⟩
theorem lw_p17 : lw_okq (⟨"SigmaDeskModel", "respondTree", "(I)V"⟩, 34) := ⟨⟨by decide +kernel, by decide +kernel⟩, List.mem_of_getElem? (i := 421) (by decide +kernel), List.mem_of_getElem? (i := 631) (by decide +kernel), List.mem_of_getElem? (i := 632) (by decide +kernel)⟩
theorem lw_p18 : lw_okq (⟨"SigmaDeskModel", "respondLeaf", "(II)V"⟩, 34) := ⟨⟨by decide +kernel, by decide +kernel⟩, List.mem_of_getElem? (i := 421) (by decide +kernel), List.mem_of_getElem? (i := 635) (by decide +kernel), List.mem_of_getElem? (i := 636) (by decide +kernel)⟩
theorem lw_p19 : lw_okq (⟨"SigmaDeskModel", "hashed", "()I"⟩, 34) := ⟨⟨by decide +kernel, by decide +kernel⟩, List.mem_of_getElem? (i := 421) (by decide +kernel), List.mem_of_getElem? (i := 648) (by decide +kernel), List.mem_of_getElem? (i := 649) (by decide +kernel)⟩
theorem lw_p20 : lw_okq (⟨"SigmaDeskModel", "isAccepted", "(Z)Z"⟩, 34) := ⟨⟨by decide +kernel, by decide +kernel⟩, List.mem_of_getElem? (i := 421) (by decide +kernel), List.mem_of_getElem? (i := 661) (by decide +kernel), List.mem_of_getElem? (i := 662) (by decide +kernel)⟩
theorem lw_p21 : lw_okq (⟨"SigmaDeskModel", "joined", "(Z)I"⟩, 34) := ⟨⟨by decide +kernel, by decide +kernel⟩, List.mem_of_getElem? (i := 421) (by decide +kernel), List.mem_of_getElem? (i := 665) (by decide +kernel), List.mem_of_getElem? (i := 666) (by decide +kernel)⟩
theorem lw_p22 : lw_okq (⟨"SigmaDeskModel", "accepts", "(IZ)Z"⟩, 34) := ⟨⟨by decide +kernel, by decide +kernel⟩, List.mem_of_getElem? (i := 421) (by decide +kernel), List.mem_of_getElem? (i := 669) (by decide +kernel), List.mem_of_getElem? (i := 670) (by decide +kernel)⟩
theorem lw_p23 : lw_okq (⟨"SigmaDeskModel", "isPart", "(II)Z"⟩, 34) := ⟨⟨by decide +kernel, by decide +kernel⟩, List.mem_of_getElem? (i := 421) (by decide +kernel), List.mem_of_getElem? (i := 681) (by decide +kernel), List.mem_of_getElem? (i := 682) (by decide +kernel)⟩
theorem lw_p24 : lw_okq (⟨"SigmaDeskModel", "sameCommitments", "()Z"⟩, 34) := ⟨⟨by decide +kernel, by decide +kernel⟩, List.mem_of_getElem? (i := 421) (by decide +kernel), List.mem_of_getElem? (i := 697) (by decide +kernel), List.mem_of_getElem? (i := 698) (by decide +kernel)⟩
def lw_privs_2 : List (MethodName × Nat) := [(⟨"SigmaDeskModel", "commitOr", "(IZI)V"⟩, 34), (⟨"SigmaDeskModel", "respondTree", "(I)V"⟩, 34), (⟨"SigmaDeskModel", "respondLeaf", "(II)V"⟩, 34), (⟨"SigmaDeskModel", "hashed", "()I"⟩, 34), (⟨"SigmaDeskModel", "isAccepted", "(Z)Z"⟩, 34), (⟨"SigmaDeskModel", "joined", "(Z)I"⟩, 34), (⟨"SigmaDeskModel", "accepts", "(IZ)Z"⟩, 34), (⟨"SigmaDeskModel", "isPart", "(II)Z"⟩, 34), (⟨"SigmaDeskModel", "sameCommitments", "()Z"⟩, 34)]
theorem lw_r2 : ∀ q ∈ lw_privs_2, lw_okq q := List.forall_mem_cons.mpr ⟨lw_p16, List.forall_mem_cons.mpr ⟨lw_p17, List.forall_mem_cons.mpr ⟨lw_p18, List.forall_mem_cons.mpr ⟨lw_p19, List.forall_mem_cons.mpr ⟨lw_p20, List.forall_mem_cons.mpr ⟨lw_p21, List.forall_mem_cons.mpr ⟨lw_p22, List.forall_mem_cons.mpr ⟨lw_p23, List.forall_mem_cons.mpr ⟨lw_p24, fun _ h => absurd h List.not_mem_nil⟩⟩⟩⟩⟩⟩⟩⟩⟩
def lw_privs : List (MethodName × Nat) := lw_privs_1 ++ (lw_privs_2)
def lw_tbl : List Cond := k2_sels lw_privs ++ tables_1
theorem lw_privs_ok : ∀ q ∈ lw_privs, lw_okq q := by
  show ∀ q ∈ lw_privs_1 ++ (lw_privs_2), lw_okq q
  exact List.forall_mem_append.mpr ⟨lw_r1, lw_r2⟩
end
section
/-! names: classes, fields, methods (by names.py out of the task's Statement) -/
def R_D : String := "SigmaDesk"
def R_M : String := "SigmaDeskModel"
def R_A : String := "SigmaDesk$And"
def R_O : String := "SigmaDesk$Or"
def R_J : String := "SigmaDesk$Join"
def R_F : String := "SigmaDesk$Leaf"
def R_S : String := "SigmaDesk$Statement"
def R_T : String := "SigmaDesk$Transcript"
def R_G : String := "SigmaDesk$Drawing"
def R_U : String := "java/util/Arrays"
def R_L : String := "SigmaDeskLaw"
def R_B : String := "java/lang/Object"
def R_Y : String := "java/lang/System"
def T_D : u_T := fun k => match k with
  | 0 => ("SigmaDesk", "stack", "[LSigmaDesk$Statement;", true)
  | 1 => ("SigmaDesk", "height", "I", false)
  | 2 => ("SigmaDesk", "tree", "LSigmaDesk$Statement;", false)
  | 3 => ("SigmaDesk", "leaves", "[LSigmaDesk$Leaf;", true)
  | 4 => ("SigmaDesk", "leafCount", "I", false)
  | 5 => ("SigmaDesk", "drawing", "LSigmaDesk$Drawing;", true)
  | 6 => ("SigmaDesk", "present", "LSigmaDesk$Transcript;", true)
  | 7 => ("SigmaDesk", "kept", "LSigmaDesk$Transcript;", true)
  | 8 => ("SigmaDesk", "isKept", "Z", false)
  | _ => ("SigmaDesk", "canRespond", "Z", false)
def ft_D : Nat → FieldType := fun k => match k with
  | 0 => .array (.object "SigmaDesk$Statement")
  | 1 => .int
  | 2 => .object "SigmaDesk$Statement"
  | 3 => .array (.object "SigmaDesk$Leaf")
  | 4 => .int
  | 5 => .object "SigmaDesk$Drawing"
  | 6 => .object "SigmaDesk$Transcript"
  | 7 => .object "SigmaDesk$Transcript"
  | 8 => .boolean
  | _ => .boolean
theorem fn_D : ∀ a, a < 10 → ∀ b, b < 10 → a ≠ b → (T_D a).2.1 ≠ (T_D b).2.1 := by decide +kernel
theorem ft_D_ok : ∀ k, k < 10 → parseFieldDescriptor (T_D k).2.2.1 = some (ft_D k) := by decide +kernel
def T_M : u_T := fun k => match k with
  | 0 => ("SigmaDeskModel", "kind", "[I", true)
  | 1 => ("SigmaDeskModel", "base", "[I", true)
  | 2 => ("SigmaDeskModel", "image", "[I", true)
  | 3 => ("SigmaDeskModel", "base2", "[I", true)
  | 4 => ("SigmaDeskModel", "image2", "[I", true)
  | 5 => ("SigmaDeskModel", "start", "[I", true)
  | 6 => ("SigmaDeskModel", "node", "[I", true)
  | 7 => ("SigmaDeskModel", "left", "[I", true)
  | 8 => ("SigmaDeskModel", "right", "[I", true)
  | 9 => ("SigmaDeskModel", "leafOf", "[I", true)
  | 10 => ("SigmaDeskModel", "bases", "[I", true)
  | 11 => ("SigmaDeskModel", "images", "[I", true)
  | 12 => ("SigmaDeskModel", "witnesses", "[I", true)
  | 13 => ("SigmaDeskModel", "commitment", "[I", true)
  | 14 => ("SigmaDeskModel", "challenged", "[I", true)
  | 15 => ("SigmaDeskModel", "response", "[I", true)
  | 16 => ("SigmaDeskModel", "savedCommitment", "[I", true)
  | 17 => ("SigmaDeskModel", "savedChallenge", "[I", true)
  | 18 => ("SigmaDeskModel", "savedResponse", "[I", true)
  | 19 => ("SigmaDeskModel", "nonce", "[I", true)
  | 20 => ("SigmaDeskModel", "leftReal", "[Z", true)
  | 21 => ("SigmaDeskModel", "drawn", "[I", true)
  | 22 => ("SigmaDeskModel", "queue", "[I", true)
  | 23 => ("SigmaDeskModel", "with", "[I", true)
  | 24 => ("SigmaDeskModel", "real", "[Z", true)
  | 25 => ("SigmaDeskModel", "value", "[I", true)
  | 26 => ("SigmaDeskModel", "held", "[Z", true)
  | 27 => ("SigmaDeskModel", "top", "I", false)
  | 28 => ("SigmaDeskModel", "size", "I", false)
  | 29 => ("SigmaDeskModel", "leaves", "I", false)
  | 30 => ("SigmaDeskModel", "saved", "Z", false)
  | 31 => ("SigmaDeskModel", "committed", "Z", false)
  | 32 => ("SigmaDeskModel", "state", "I", false)
  | _ => ("SigmaDeskModel", "todo", "I", false)
def ft_M : Nat → FieldType := fun k => match k with
  | 0 => .array .int
  | 1 => .array .int
  | 2 => .array .int
  | 3 => .array .int
  | 4 => .array .int
  | 5 => .array .int
  | 6 => .array .int
  | 7 => .array .int
  | 8 => .array .int
  | 9 => .array .int
  | 10 => .array .int
  | 11 => .array .int
  | 12 => .array .int
  | 13 => .array .int
  | 14 => .array .int
  | 15 => .array .int
  | 16 => .array .int
  | 17 => .array .int
  | 18 => .array .int
  | 19 => .array .int
  | 20 => .array .boolean
  | 21 => .array .int
  | 22 => .array .int
  | 23 => .array .int
  | 24 => .array .boolean
  | 25 => .array .int
  | 26 => .array .boolean
  | 27 => .int
  | 28 => .int
  | 29 => .int
  | 30 => .boolean
  | 31 => .boolean
  | 32 => .int
  | _ => .int
theorem fn_M : ∀ a, a < 34 → ∀ b, b < 34 → a ≠ b → (T_M a).2.1 ≠ (T_M b).2.1 := by decide +kernel
theorem ft_M_ok : ∀ k, k < 34 → parseFieldDescriptor (T_M k).2.2.1 = some (ft_M k) := by decide +kernel
def T_A : u_T := fun k => match k with
  | 0 => ("SigmaDesk$Join", "left", "LSigmaDesk$Statement;", true)
  | 1 => ("SigmaDesk$Join", "right", "LSigmaDesk$Statement;", true)
  | _ => ("SigmaDesk$Statement", "size", "I", true)
def ft_A : Nat → FieldType := fun k => match k with
  | 0 => .object "SigmaDesk$Statement"
  | 1 => .object "SigmaDesk$Statement"
  | _ => .int
theorem fn_A : ∀ a, a < 3 → ∀ b, b < 3 → a ≠ b → (T_A a).2.1 ≠ (T_A b).2.1 := by decide +kernel
theorem ft_A_ok : ∀ k, k < 3 → parseFieldDescriptor (T_A k).2.2.1 = some (ft_A k) := by decide +kernel
def T_O : u_T := fun k => match k with
  | 0 => ("SigmaDesk$Join", "left", "LSigmaDesk$Statement;", true)
  | 1 => ("SigmaDesk$Join", "right", "LSigmaDesk$Statement;", true)
  | 2 => ("SigmaDesk$Statement", "size", "I", true)
  | 3 => ("SigmaDesk$Or", "leftIsReal", "Z", false)
  | _ => ("SigmaDesk$Or", "otherChallenge", "I", false)
def ft_O : Nat → FieldType := fun k => match k with
  | 0 => .object "SigmaDesk$Statement"
  | 1 => .object "SigmaDesk$Statement"
  | 2 => .int
  | 3 => .boolean
  | _ => .int
theorem fn_O : ∀ a, a < 5 → ∀ b, b < 5 → a ≠ b → (T_O a).2.1 ≠ (T_O b).2.1 := by decide +kernel
theorem ft_O_ok : ∀ k, k < 5 → parseFieldDescriptor (T_O k).2.2.1 = some (ft_O k) := by decide +kernel
def T_F : u_T := fun k => match k with
  | 0 => ("SigmaDesk$Statement", "size", "I", true)
  | 1 => ("SigmaDesk$Leaf", "bases", "[I", true)
  | 2 => ("SigmaDesk$Leaf", "elements", "[I", true)
  | 3 => ("SigmaDesk$Leaf", "number", "I", false)
  | 4 => ("SigmaDesk$Leaf", "told", "Z", false)
  | 5 => ("SigmaDesk$Leaf", "witness", "I", false)
  | _ => ("SigmaDesk$Leaf", "nonce", "I", false)
def ft_F : Nat → FieldType := fun k => match k with
  | 0 => .int
  | 1 => .array .int
  | 2 => .array .int
  | 3 => .int
  | 4 => .boolean
  | 5 => .int
  | _ => .int
theorem fn_F : ∀ a, a < 7 → ∀ b, b < 7 → a ≠ b → (T_F a).2.1 ≠ (T_F b).2.1 := by decide +kernel
theorem ft_F_ok : ∀ k, k < 7 → parseFieldDescriptor (T_F k).2.2.1 = some (ft_F k) := by decide +kernel
def T_T : u_T := fun k => match k with
  | _ => ("SigmaDesk$Transcript", "parts", "[I", true)
def ft_T : Nat → FieldType := fun k => match k with
  | _ => .array .int
theorem fn_T : ∀ a, a < 1 → ∀ b, b < 1 → a ≠ b → (T_T a).2.1 ≠ (T_T b).2.1 := by decide +kernel
theorem ft_T_ok : ∀ k, k < 1 → parseFieldDescriptor (T_T k).2.2.1 = some (ft_T k) := by decide +kernel
def T_G : u_T := fun k => match k with
  | _ => ("SigmaDesk$Drawing", "state", "I", false)
def ft_G : Nat → FieldType := fun k => match k with
  | _ => .int
theorem fn_G : ∀ a, a < 1 → ∀ b, b < 1 → a ≠ b → (T_G a).2.1 ≠ (T_G b).2.1 := by decide +kernel
theorem ft_G_ok : ∀ k, k < 1 → parseFieldDescriptor (T_G k).2.2.1 = some (ft_G k) := by decide +kernel
/-- the classes whose objects the worlds hold -/
abbrev zC : List vw_C := [(R_D, T_D, 10), (R_M, T_M, 34), (R_A, T_A, 3), (R_O, T_O, 5), (R_F, T_F, 7), (R_T, T_T, 1), (R_G, T_G, 1)]
def y_D_init : MethodName := ⟨R_D, "<init>", "()V"⟩
abbrev c_D_init : ByteArray := prog_1_method_1_code
def y_B_init : MethodName := ⟨R_B, "<init>", "()V"⟩
abbrev c_B_init : ByteArray := object_method_1_code
def y_G_init : MethodName := ⟨R_G, "<init>", "()V"⟩
abbrev c_G_init : ByteArray := prog_3_method_1_code
def y_T_init : MethodName := ⟨R_T, "<init>", "()V"⟩
abbrev c_T_init : ByteArray := prog_8_method_1_code
def y_D_power : MethodName := ⟨R_D, "power", "(II)I"⟩
abbrev c_D_power : ByteArray := prog_1_method_2_code
def y_D_isElement : MethodName := ⟨R_D, "isElement", "(I)Z"⟩
abbrev c_D_isElement : ByteArray := prog_1_method_30_code
def y_D_raise : MethodName := ⟨R_D, "raise", "(III)I"⟩
abbrev c_D_raise : ByteArray := prog_1_method_34_code
def y_D_isExponent : MethodName := ⟨R_D, "isExponent", "(I)Z"⟩
abbrev c_D_isExponent : ByteArray := prog_1_method_31_code
def y_D_leaf : MethodName := ⟨R_D, "leaf", "(II)Z"⟩
abbrev c_D_leaf : ByteArray := prog_1_method_3_code
def y_D_isFull : MethodName := ⟨R_D, "isFull", "()Z"⟩
abbrev c_D_isFull : ByteArray := prog_1_method_22_code
def y_D_isPair : MethodName := ⟨R_D, "isPair", "(II)Z"⟩
abbrev c_D_isPair : ByteArray := prog_1_method_32_code
def y_F_init : MethodName := ⟨R_F, "<init>", "([I[I)V"⟩
abbrev c_F_init : ByteArray := prog_5_method_1_code
def y_S_init : MethodName := ⟨R_S, "<init>", "(I)V"⟩
abbrev c_S_init : ByteArray := prog_7_method_1_code
def y_D_push : MethodName := ⟨R_D, "push", "(LSigmaDesk$Statement;)V"⟩
abbrev c_D_push : ByteArray := prog_1_method_23_code
def y_D_equal : MethodName := ⟨R_D, "equal", "(IIII)Z"⟩
abbrev c_D_equal : ByteArray := prog_1_method_4_code
def y_D_join : MethodName := ⟨R_D, "join", "(Z)Z"⟩
abbrev c_D_join : ByteArray := prog_1_method_5_code
def y_D_drop : MethodName := ⟨R_D, "drop", "()V"⟩
abbrev c_D_drop : ByteArray := prog_1_method_24_code
def y_A_init : MethodName := ⟨R_A, "<init>", "(LSigmaDesk$Statement;LSigmaDesk$Statement;)V"⟩
abbrev c_A_init : ByteArray := prog_2_method_1_code
def y_J_init : MethodName := ⟨R_J, "<init>", "(LSigmaDesk$Statement;LSigmaDesk$Statement;)V"⟩
abbrev c_J_init : ByteArray := prog_4_method_1_code
def y_O_init : MethodName := ⟨R_O, "<init>", "(LSigmaDesk$Statement;LSigmaDesk$Statement;)V"⟩
abbrev c_O_init : ByteArray := prog_6_method_1_code
def y_D_discard : MethodName := ⟨R_D, "discard", "()Z"⟩
abbrev c_D_discard : ByteArray := prog_1_method_6_code
def y_D_accept : MethodName := ⟨R_D, "accept", "()I"⟩
abbrev c_D_accept : ByteArray := prog_1_method_7_code
def y_S_numberLeaves : MethodName := ⟨R_S, "numberLeaves", "([LSigmaDesk$Leaf;I)I"⟩
def y_J_numberLeaves : MethodName := ⟨R_J, "numberLeaves", "([LSigmaDesk$Leaf;I)I"⟩
abbrev c_J_numberLeaves : ByteArray := prog_4_method_2_code
def y_F_numberLeaves : MethodName := ⟨R_F, "numberLeaves", "([LSigmaDesk$Leaf;I)I"⟩
abbrev c_F_numberLeaves : ByteArray := prog_5_method_7_code
def y_T_clear : MethodName := ⟨R_T, "clear", "()V"⟩
abbrev c_T_clear : ByteArray := prog_8_method_4_code
def y_U_fill : MethodName := ⟨R_U, "fill", "([II)V"⟩
abbrev c_U_fill : ByteArray := prog_12_method_103_code
def y_D_tell : MethodName := ⟨R_D, "tell", "(II)Z"⟩
abbrev c_D_tell : ByteArray := prog_1_method_8_code
def y_D_isLeaf : MethodName := ⟨R_D, "isLeaf", "(I)Z"⟩
abbrev c_D_isLeaf : ByteArray := prog_1_method_25_code
def y_F_fits : MethodName := ⟨R_F, "fits", "(I)Z"⟩
abbrev c_F_fits : ByteArray := prog_5_method_3_code
def y_F_learn : MethodName := ⟨R_F, "learn", "(I)V"⟩
abbrev c_F_learn : ByteArray := prog_5_method_4_code
def y_D_witness : MethodName := ⟨R_D, "witness", "(I)I"⟩
abbrev c_D_witness : ByteArray := prog_1_method_9_code
def y_F_isKnown : MethodName := ⟨R_F, "isKnown", "()Z"⟩
abbrev c_F_isKnown : ByteArray := prog_5_method_8_code
def y_D_known : MethodName := ⟨R_D, "known", "()Z"⟩
abbrev c_D_known : ByteArray := prog_1_method_10_code
def y_S_isKnown : MethodName := ⟨R_S, "isKnown", "()Z"⟩
def y_A_isKnown : MethodName := ⟨R_A, "isKnown", "()Z"⟩
abbrev c_A_isKnown : ByteArray := prog_2_method_2_code
def y_O_isKnown : MethodName := ⟨R_O, "isKnown", "()Z"⟩
abbrev c_O_isKnown : ByteArray := prog_6_method_2_code
def y_D_commit : MethodName := ⟨R_D, "commit", "(I)I"⟩
abbrev c_D_commit : ByteArray := prog_1_method_11_code
def y_G_start : MethodName := ⟨R_G, "start", "(I)V"⟩
abbrev c_G_start : ByteArray := prog_3_method_2_code
def y_S_commitReal : MethodName := ⟨R_S, "commitReal", "(LSigmaDesk$Transcript;LSigmaDesk$Drawing;)V"⟩
def y_A_commitReal : MethodName := ⟨R_A, "commitReal", "(LSigmaDesk$Transcript;LSigmaDesk$Drawing;)V"⟩
abbrev c_A_commitReal : ByteArray := prog_2_method_3_code
def y_F_commitReal : MethodName := ⟨R_F, "commitReal", "(LSigmaDesk$Transcript;LSigmaDesk$Drawing;)V"⟩
abbrev c_F_commitReal : ByteArray := prog_5_method_9_code
def y_G_draw : MethodName := ⟨R_G, "draw", "()I"⟩
abbrev c_G_draw : ByteArray := prog_3_method_3_code
def y_T_set : MethodName := ⟨R_T, "set", "(III)V"⟩
abbrev c_T_set : ByteArray := prog_8_method_3_code
def y_O_commitReal : MethodName := ⟨R_O, "commitReal", "(LSigmaDesk$Transcript;LSigmaDesk$Drawing;)V"⟩
abbrev c_O_commitReal : ByteArray := prog_6_method_3_code
def y_S_commitSimulated : MethodName := ⟨R_S, "commitSimulated", "(ILSigmaDesk$Transcript;LSigmaDesk$Drawing;)V"⟩
def y_A_commitSimulated : MethodName := ⟨R_A, "commitSimulated", "(ILSigmaDesk$Transcript;LSigmaDesk$Drawing;)V"⟩
abbrev c_A_commitSimulated : ByteArray := prog_2_method_4_code
def y_F_commitSimulated : MethodName := ⟨R_F, "commitSimulated", "(ILSigmaDesk$Transcript;LSigmaDesk$Drawing;)V"⟩
abbrev c_F_commitSimulated : ByteArray := prog_5_method_10_code
def y_O_commitSimulated : MethodName := ⟨R_O, "commitSimulated", "(ILSigmaDesk$Transcript;LSigmaDesk$Drawing;)V"⟩
abbrev c_O_commitSimulated : ByteArray := prog_6_method_4_code
def y_D_minus : MethodName := ⟨R_D, "minus", "(II)I"⟩
abbrev c_D_minus : ByteArray := prog_1_method_33_code
def y_D_respond : MethodName := ⟨R_D, "respond", "(I)I"⟩
abbrev c_D_respond : ByteArray := prog_1_method_12_code
def y_S_respondTo : MethodName := ⟨R_S, "respondTo", "(ILSigmaDesk$Transcript;)V"⟩
def y_A_respondTo : MethodName := ⟨R_A, "respondTo", "(ILSigmaDesk$Transcript;)V"⟩
abbrev c_A_respondTo : ByteArray := prog_2_method_5_code
def y_F_respondTo : MethodName := ⟨R_F, "respondTo", "(ILSigmaDesk$Transcript;)V"⟩
abbrev c_F_respondTo : ByteArray := prog_5_method_11_code
def y_O_respondTo : MethodName := ⟨R_O, "respondTo", "(ILSigmaDesk$Transcript;)V"⟩
abbrev c_O_respondTo : ByteArray := prog_6_method_5_code
def y_D_simulate : MethodName := ⟨R_D, "simulate", "(II)I"⟩
abbrev c_D_simulate : ByteArray := prog_1_method_13_code
def y_D_prove : MethodName := ⟨R_D, "prove", "(I)I"⟩
abbrev c_D_prove : ByteArray := prog_1_method_14_code
def y_D_hash : MethodName := ⟨R_D, "hash", "()I"⟩
abbrev c_D_hash : ByteArray := prog_1_method_15_code
def y_F_mixInto : MethodName := ⟨R_F, "mixInto", "(ILSigmaDesk$Transcript;)I"⟩
abbrev c_F_mixInto : ByteArray := prog_5_method_5_code
def y_T_get : MethodName := ⟨R_T, "get", "(II)I"⟩
abbrev c_T_get : ByteArray := prog_8_method_2_code
def y_D_verify : MethodName := ⟨R_D, "verify", "()Z"⟩
abbrev c_D_verify : ByteArray := prog_1_method_16_code
def y_D_isAccepted : MethodName := ⟨R_D, "isAccepted", "(LSigmaDesk$Transcript;)Z"⟩
abbrev c_D_isAccepted : ByteArray := prog_1_method_27_code
def y_F_holdsIn : MethodName := ⟨R_F, "holdsIn", "(LSigmaDesk$Transcript;)Z"⟩
abbrev c_F_holdsIn : ByteArray := prog_5_method_6_code
def y_S_challengeIn : MethodName := ⟨R_S, "challengeIn", "(LSigmaDesk$Transcript;)I"⟩
def y_A_challengeIn : MethodName := ⟨R_A, "challengeIn", "(LSigmaDesk$Transcript;)I"⟩
abbrev c_A_challengeIn : ByteArray := prog_2_method_6_code
def y_F_challengeIn : MethodName := ⟨R_F, "challengeIn", "(LSigmaDesk$Transcript;)I"⟩
abbrev c_F_challengeIn : ByteArray := prog_5_method_12_code
def y_O_challengeIn : MethodName := ⟨R_O, "challengeIn", "(LSigmaDesk$Transcript;)I"⟩
abbrev c_O_challengeIn : ByteArray := prog_6_method_6_code
def y_D_challenge : MethodName := ⟨R_D, "challenge", "()I"⟩
abbrev c_D_challenge : ByteArray := prog_1_method_17_code
def y_D_part : MethodName := ⟨R_D, "part", "(II)I"⟩
abbrev c_D_part : ByteArray := prog_1_method_18_code
def y_D_isPart : MethodName := ⟨R_D, "isPart", "(II)Z"⟩
abbrev c_D_isPart : ByteArray := prog_1_method_26_code
def y_F_pairs : MethodName := ⟨R_F, "pairs", "()I"⟩
abbrev c_F_pairs : ByteArray := prog_5_method_2_code
def y_D_change : MethodName := ⟨R_D, "change", "(III)Z"⟩
abbrev c_D_change : ByteArray := prog_1_method_19_code
def y_D_save : MethodName := ⟨R_D, "save", "()Z"⟩
abbrev c_D_save : ByteArray := prog_1_method_20_code
def y_T_copy : MethodName := ⟨R_T, "copy", "(LSigmaDesk$Transcript;)V"⟩
abbrev c_T_copy : ByteArray := prog_8_method_5_code
def y_Y_arraycopy : MethodName := ⟨R_Y, "arraycopy", "(Ljava/lang/Object;ILjava/lang/Object;II)V"⟩
def y_D_extract : MethodName := ⟨R_D, "extract", "()I"⟩
abbrev c_D_extract : ByteArray := prog_1_method_21_code
def y_D_sameCommitments : MethodName := ⟨R_D, "sameCommitments", "()Z"⟩
abbrev c_D_sameCommitments : ByteArray := prog_1_method_28_code
def y_D_givenAway : MethodName := ⟨R_D, "givenAway", "(I)I"⟩
abbrev c_D_givenAway : ByteArray := prog_1_method_29_code
def y_M_init : MethodName := ⟨R_M, "<init>", "()V"⟩
abbrev c_M_init : ByteArray := prog_10_method_1_code
def y_M_power : MethodName := ⟨R_M, "power", "(II)I"⟩
abbrev c_M_power : ByteArray := prog_10_method_10_code
def y_M_isElement : MethodName := ⟨R_M, "isElement", "(I)Z"⟩
abbrev c_M_isElement : ByteArray := prog_10_method_4_code
def y_M_raised : MethodName := ⟨R_M, "raised", "(II)I"⟩
abbrev c_M_raised : ByteArray := prog_10_method_3_code
def y_M_times : MethodName := ⟨R_M, "times", "(III)I"⟩
abbrev c_M_times : ByteArray := prog_10_method_2_code
def y_M_isExponent : MethodName := ⟨R_M, "isExponent", "(I)Z"⟩
abbrev c_M_isExponent : ByteArray := prog_10_method_6_code
def y_M_leaf : MethodName := ⟨R_M, "leaf", "(II)Z"⟩
abbrev c_M_leaf : ByteArray := prog_10_method_12_code
def y_M_isBase : MethodName := ⟨R_M, "isBase", "(I)Z"⟩
abbrev c_M_isBase : ByteArray := prog_10_method_5_code
def y_M_push : MethodName := ⟨R_M, "push", "(IIIII)V"⟩
abbrev c_M_push : ByteArray := prog_10_method_11_code
def y_M_equal : MethodName := ⟨R_M, "equal", "(IIII)Z"⟩
abbrev c_M_equal : ByteArray := prog_10_method_13_code
def y_M_join : MethodName := ⟨R_M, "join", "(Z)Z"⟩
abbrev c_M_join : ByteArray := prog_10_method_14_code
def y_M_discard : MethodName := ⟨R_M, "discard", "()Z"⟩
abbrev c_M_discard : ByteArray := prog_10_method_15_code
def y_M_accept : MethodName := ⟨R_M, "accept", "()I"⟩
abbrev c_M_accept : ByteArray := prog_10_method_16_code
def y_M_tell : MethodName := ⟨R_M, "tell", "(II)Z"⟩
abbrev c_M_tell : ByteArray := prog_10_method_19_code
def y_M_isLeaf : MethodName := ⟨R_M, "isLeaf", "(I)Z"⟩
abbrev c_M_isLeaf : ByteArray := prog_10_method_17_code
def y_M_isPair : MethodName := ⟨R_M, "isPair", "(II)Z"⟩
abbrev c_M_isPair : ByteArray := prog_10_method_18_code
def y_M_witness : MethodName := ⟨R_M, "witness", "(I)I"⟩
abbrev c_M_witness : ByteArray := prog_10_method_20_code
def y_M_known : MethodName := ⟨R_M, "known", "()Z"⟩
abbrev c_M_known : ByteArray := prog_10_method_22_code
def y_M_know : MethodName := ⟨R_M, "know", "()V"⟩
abbrev c_M_know : ByteArray := prog_10_method_21_code
def y_M_commit : MethodName := ⟨R_M, "commit", "(I)I"⟩
abbrev c_M_commit : ByteArray := prog_10_method_29_code
def y_M_commitTree : MethodName := ⟨R_M, "commitTree", "(ZII)V"⟩
abbrev c_M_commitTree : ByteArray := prog_10_method_26_code
def y_M_later : MethodName := ⟨R_M, "later", "(IZI)V"⟩
abbrev c_M_later : ByteArray := prog_10_method_23_code
def y_M_commitLeaf : MethodName := ⟨R_M, "commitLeaf", "(IZI)V"⟩
abbrev c_M_commitLeaf : ByteArray := prog_10_method_24_code
def y_M_draw : MethodName := ⟨R_M, "draw", "()I"⟩
abbrev c_M_draw : ByteArray := prog_10_method_9_code
def y_M_commitOr : MethodName := ⟨R_M, "commitOr", "(IZI)V"⟩
abbrev c_M_commitOr : ByteArray := prog_10_method_25_code
def y_M_less : MethodName := ⟨R_M, "less", "(II)I"⟩
abbrev c_M_less : ByteArray := prog_10_method_7_code
def y_M_respond : MethodName := ⟨R_M, "respond", "(I)I"⟩
abbrev c_M_respond : ByteArray := prog_10_method_30_code
def y_M_respondTree : MethodName := ⟨R_M, "respondTree", "(I)V"⟩
abbrev c_M_respondTree : ByteArray := prog_10_method_28_code
def y_M_respondLeaf : MethodName := ⟨R_M, "respondLeaf", "(II)V"⟩
abbrev c_M_respondLeaf : ByteArray := prog_10_method_27_code
def y_M_simulate : MethodName := ⟨R_M, "simulate", "(II)I"⟩
abbrev c_M_simulate : ByteArray := prog_10_method_31_code
def y_M_prove : MethodName := ⟨R_M, "prove", "(I)I"⟩
abbrev c_M_prove : ByteArray := prog_10_method_33_code
def y_M_hashed : MethodName := ⟨R_M, "hashed", "()I"⟩
abbrev c_M_hashed : ByteArray := prog_10_method_32_code
def y_M_hash : MethodName := ⟨R_M, "hash", "()I"⟩
abbrev c_M_hash : ByteArray := prog_10_method_34_code
def y_M_verify : MethodName := ⟨R_M, "verify", "()Z"⟩
abbrev c_M_verify : ByteArray := prog_10_method_38_code
def y_M_isAccepted : MethodName := ⟨R_M, "isAccepted", "(Z)Z"⟩
abbrev c_M_isAccepted : ByteArray := prog_10_method_37_code
def y_M_joined : MethodName := ⟨R_M, "joined", "(Z)I"⟩
abbrev c_M_joined : ByteArray := prog_10_method_35_code
def y_M_accepts : MethodName := ⟨R_M, "accepts", "(IZ)Z"⟩
abbrev c_M_accepts : ByteArray := prog_10_method_36_code
def y_M_challenge : MethodName := ⟨R_M, "challenge", "()I"⟩
abbrev c_M_challenge : ByteArray := prog_10_method_39_code
def y_M_part : MethodName := ⟨R_M, "part", "(II)I"⟩
abbrev c_M_part : ByteArray := prog_10_method_41_code
def y_M_isPart : MethodName := ⟨R_M, "isPart", "(II)Z"⟩
abbrev c_M_isPart : ByteArray := prog_10_method_40_code
def y_M_change : MethodName := ⟨R_M, "change", "(III)Z"⟩
abbrev c_M_change : ByteArray := prog_10_method_42_code
def y_M_save : MethodName := ⟨R_M, "save", "()Z"⟩
abbrev c_M_save : ByteArray := prog_10_method_43_code
def y_M_extract : MethodName := ⟨R_M, "extract", "()I"⟩
abbrev c_M_extract : ByteArray := prog_10_method_45_code
def y_M_sameCommitments : MethodName := ⟨R_M, "sameCommitments", "()Z"⟩
abbrev c_M_sameCommitments : ByteArray := prog_10_method_44_code
def y_M_inverse : MethodName := ⟨R_M, "inverse", "(I)I"⟩
abbrev c_M_inverse : ByteArray := prog_10_method_8_code
end
section
/-! one list of words for all methods; calls of methods that change nothing -/
def zT : List Cond := lw_tbl.filter goodWord
theorem zT_all : ∀ w ∈ zT, w ∈ zT ∧ ((w.onTables && w.keeps) = true ∨ ∃ ty, w = .arrayClass ty) := fun _ h => ⟨h, good_of_word (List.mem_filter.mp h).2⟩
theorem zT_mem {w : Cond} (h : w ∈ lw_tbl) (hg : goodWord w = true) : w ∈ zT := List.mem_filter.mpr ⟨h, hg⟩
theorem zG0 {y : MethodName} {bytes : ByteArray} {maxL : Nat} {ret : Option FieldType} (w4 : Cond.code y bytes maxL ret ∈ zT) : GoodIn zT (Cond.code y bytes maxL ret :: zT) := by
  intro w hw
  rcases List.mem_cons.mp hw with rfl | hw
  · exact zT_all _ w4
  · exact zT_all _ hw
/-- words that live on by warmth alone (nest mates' links, abstract methods, casts) -/
def zNest : Cond → Bool
  | .fieldLinkNest .. => true
  | .methodLinkNest .. => true
  | .declares _ => true
  | .castable .. => true
  | _ => false
def zN (U : State) : Prop := ∀ w, w ∈ lw_tbl → zNest w = true → va_Nw w U
theorem zN_of {args : Array Value} {s : State} (h : ∀ w ∈ lw_tbl, w.before args s = true) : zN s := by
  intro w hw hn
  refine va_Nw.of ?_ (h w hw)
  cases w <;> first | rfl | exact absurd hn Bool.false_ne_true
theorem zN_warm {s U : State} (hW : s.WarmedH U.vm) (h : zN s) : zN U := by
  intro w hw hn
  have h1 := h w hw hn
  cases w <;> first | exact va_Nw.warmF hW h1 | exact va_Nw.warmM hW h1 | exact va_Nw.warmD hW h1 | exact va_Nw.warmC hW h1 | exact absurd hn Bool.false_ne_true
theorem zN_same {u U : State} (hv : u.vm = U.vm) (h : zN u) : zN U := by
  intro w hw hn
  refine va_Nw.same ?_ hv (h w hw hn)
  cases w <;> first | rfl | exact absurd hn Bool.false_ne_true
theorem mi_L : Cond.initialized R_L ∈ zT := zT_mem (List.mem_append_right _ (List.mem_append_left _ (List.mem_of_getElem? (i := 0) rfl))) rfl
theorem mi_D : Cond.initialized R_D ∈ zT := zT_mem (List.mem_append_right _ (List.mem_append_left _ (List.mem_of_getElem? (i := 1) rfl))) rfl
theorem mi_G : Cond.initialized R_G ∈ zT := zT_mem (List.mem_append_right _ (List.mem_append_left _ (List.mem_of_getElem? (i := 2) rfl))) rfl
theorem mi_T : Cond.initialized R_T ∈ zT := zT_mem (List.mem_append_right _ (List.mem_append_left _ (List.mem_of_getElem? (i := 3) rfl))) rfl
theorem mi_M : Cond.initialized R_M ∈ zT := zT_mem (List.mem_append_right _ (List.mem_append_left _ (List.mem_of_getElem? (i := 4) rfl))) rfl
theorem mi_S : Cond.initialized R_S ∈ zT := zT_mem (List.mem_append_right _ (List.mem_append_left _ (List.mem_of_getElem? (i := 5) rfl))) rfl
theorem mi_F : Cond.initialized R_F ∈ zT := zT_mem (List.mem_append_right _ (List.mem_append_left _ (List.mem_of_getElem? (i := 6) rfl))) rfl
theorem mi_J : Cond.initialized R_J ∈ zT := zT_mem (List.mem_append_right _ (List.mem_append_left _ (List.mem_of_getElem? (i := 7) rfl))) rfl
theorem mi_A : Cond.initialized R_A ∈ zT := zT_mem (List.mem_append_right _ (List.mem_append_left _ (List.mem_of_getElem? (i := 8) rfl))) rfl
theorem mi_O : Cond.initialized R_O ∈ zT := zT_mem (List.mem_append_right _ (List.mem_append_left _ (List.mem_of_getElem? (i := 9) rfl))) rfl
theorem mi_U : Cond.initialized R_U ∈ zT := zT_mem (List.mem_append_right _ (List.mem_append_left _ (List.mem_of_getElem? (i := 10) rfl))) rfl
theorem mi_Y : Cond.initialized R_Y ∈ zT := zT_mem (List.mem_append_right _ (List.mem_append_left _ (List.mem_of_getElem? (i := 11) rfl))) rfl
theorem ml_L_7 : Cond.classLink R_L 7 R_D ∈ zT := zT_mem (List.mem_append_right _ (List.mem_append_left _ (List.mem_of_getElem? (i := 12) rfl))) rfl
theorem mt_D : Cond.instantiable R_D 10 ∈ zT := zT_mem (List.mem_append_right _ (List.mem_append_left _ (List.mem_of_getElem? (i := 13) rfl))) rfl
theorem mk_L_9 : Cond.methodLink R_L 9 y_D_init ∈ zT := zT_mem (List.mem_append_right _ (List.mem_append_left _ (List.mem_of_getElem? (i := 14) rfl))) rfl
theorem mo_D_init : Cond.instanceMethod y_D_init ∈ zT := zT_mem (List.mem_append_right _ (List.mem_append_left _ (List.mem_of_getElem? (i := 15) rfl))) rfl
theorem mc_D_init : Cond.code y_D_init c_D_init 1 none ∈ zT := zT_mem (List.mem_append_right _ (List.mem_append_left _ (List.mem_of_getElem? (i := 16) rfl))) rfl
theorem mk_D_1 : Cond.methodLink R_D 1 y_B_init ∈ zT := zT_mem (List.mem_append_right _ (List.mem_append_left _ (List.mem_of_getElem? (i := 17) rfl))) rfl
theorem mo_B_init : Cond.instanceMethod y_B_init ∈ zT := zT_mem (List.mem_append_right _ (List.mem_append_left _ (List.mem_of_getElem? (i := 18) rfl))) rfl
theorem mc_B_init : Cond.code y_B_init c_B_init 1 none ∈ zT := zT_mem (List.mem_append_right _ (List.mem_append_left _ (List.mem_of_getElem? (i := 19) rfl))) rfl
theorem ml_D_9 : Cond.classLink R_D 9 R_S ∈ zT := zT_mem (List.mem_append_right _ (List.mem_append_left _ (List.mem_of_getElem? (i := 20) rfl))) rfl
theorem mA_S : Cond.arrayOver (.object R_S) ∈ lw_tbl := List.mem_append_right _ (List.mem_append_left _ (List.mem_of_getElem? (i := 21) rfl))
theorem ml_D_23 : Cond.classLink R_D 23 R_F ∈ zT := zT_mem (List.mem_append_right _ (List.mem_append_left _ (List.mem_of_getElem? (i := 22) rfl))) rfl
theorem mA_F : Cond.arrayOver (.object R_F) ∈ lw_tbl := List.mem_append_right _ (List.mem_append_left _ (List.mem_of_getElem? (i := 23) rfl))
theorem ml_D_32 : Cond.classLink R_D 32 R_G ∈ zT := zT_mem (List.mem_append_right _ (List.mem_append_left _ (List.mem_of_getElem? (i := 24) rfl))) rfl
theorem mt_G : Cond.instantiable R_G 1 ∈ zT := zT_mem (List.mem_append_right _ (List.mem_append_left _ (List.mem_of_getElem? (i := 25) rfl))) rfl
theorem mk_D_34 : Cond.methodLinkNest R_D 34 y_G_init "SigmaDesk" ∈ lw_tbl := List.mem_append_right _ (List.mem_append_left _ (List.mem_of_getElem? (i := 26) rfl))
theorem mo_G_init : Cond.instanceMethod y_G_init ∈ zT := zT_mem (List.mem_append_right _ (List.mem_append_left _ (List.mem_of_getElem? (i := 27) rfl))) rfl
theorem mc_G_init : Cond.code y_G_init c_G_init 1 none ∈ zT := zT_mem (List.mem_append_right _ (List.mem_append_left _ (List.mem_of_getElem? (i := 28) rfl))) rfl
theorem mk_G_3 : Cond.methodLink R_G 3 y_B_init ∈ zT := zT_mem (List.mem_append_right _ (List.mem_append_left _ (List.mem_of_getElem? (i := 29) rfl))) rfl
theorem mf_G_9 : Cond.fieldLink R_G 9 "SigmaDesk$Drawing" "state" "I" ∈ zT := zT_mem (List.mem_append_right _ (List.mem_append_left _ (List.mem_of_getElem? (i := 30) rfl))) rfl
theorem my_G_state : Cond.lays R_G R_G "state" "I" ∈ zT := zT_mem (List.mem_append_right _ (List.mem_append_left _ (List.mem_of_getElem? (i := 31) rfl))) rfl
theorem ml_D_39 : Cond.classLink R_D 39 R_T ∈ zT := zT_mem (List.mem_append_right _ (List.mem_append_left _ (List.mem_of_getElem? (i := 34) rfl))) rfl
theorem mt_T : Cond.instantiable R_T 1 ∈ zT := zT_mem (List.mem_append_right _ (List.mem_append_left _ (List.mem_of_getElem? (i := 35) rfl))) rfl
theorem mk_D_41 : Cond.methodLink R_D 41 y_T_init ∈ zT := zT_mem (List.mem_append_right _ (List.mem_append_left _ (List.mem_of_getElem? (i := 36) rfl))) rfl
theorem mo_T_init : Cond.instanceMethod y_T_init ∈ zT := zT_mem (List.mem_append_right _ (List.mem_append_left _ (List.mem_of_getElem? (i := 37) rfl))) rfl
theorem mc_T_init : Cond.code y_T_init c_T_init 1 none ∈ zT := zT_mem (List.mem_append_right _ (List.mem_append_left _ (List.mem_of_getElem? (i := 38) rfl))) rfl
theorem mk_T_3 : Cond.methodLink R_T 3 y_B_init ∈ zT := zT_mem (List.mem_append_right _ (List.mem_append_left _ (List.mem_of_getElem? (i := 39) rfl))) rfl
theorem mf_T_9 : Cond.fieldLink R_T 9 "SigmaDesk$Transcript" "parts" "[I" ∈ zT := zT_mem (List.mem_append_right _ (List.mem_append_left _ (List.mem_of_getElem? (i := 40) rfl))) rfl
theorem my_T_parts : Cond.laysFinal R_T R_T "parts" "[I" ∈ zT := zT_mem (List.mem_append_right _ (List.mem_append_left _ (List.mem_of_getElem? (i := 41) rfl))) rfl
theorem ma_int : Cond.arrayClass .int ∈ zT := zT_mem (List.mem_append_right _ (List.mem_append_left _ (List.mem_of_getElem? (i := 44) rfl))) rfl
theorem mf_D_11 : Cond.fieldLink R_D 11 "SigmaDesk" "stack" "[LSigmaDesk$Statement;" ∈ zT := zT_mem (List.mem_append_right _ (List.mem_append_left _ (List.mem_of_getElem? (i := 45) rfl))) rfl
theorem mf_D_15 : Cond.fieldLink R_D 15 "SigmaDesk" "height" "I" ∈ zT := zT_mem (List.mem_append_right _ (List.mem_append_left _ (List.mem_of_getElem? (i := 46) rfl))) rfl
theorem mf_D_19 : Cond.fieldLink R_D 19 "SigmaDesk" "tree" "LSigmaDesk$Statement;" ∈ zT := zT_mem (List.mem_append_right _ (List.mem_append_left _ (List.mem_of_getElem? (i := 47) rfl))) rfl
theorem mf_D_25 : Cond.fieldLink R_D 25 "SigmaDesk" "leaves" "[LSigmaDesk$Leaf;" ∈ zT := zT_mem (List.mem_append_right _ (List.mem_append_left _ (List.mem_of_getElem? (i := 48) rfl))) rfl
theorem mf_D_29 : Cond.fieldLink R_D 29 "SigmaDesk" "leafCount" "I" ∈ zT := zT_mem (List.mem_append_right _ (List.mem_append_left _ (List.mem_of_getElem? (i := 49) rfl))) rfl
theorem mf_D_35 : Cond.fieldLink R_D 35 "SigmaDesk" "drawing" "LSigmaDesk$Drawing;" ∈ zT := zT_mem (List.mem_append_right _ (List.mem_append_left _ (List.mem_of_getElem? (i := 50) rfl))) rfl
theorem mf_D_42 : Cond.fieldLink R_D 42 "SigmaDesk" "present" "LSigmaDesk$Transcript;" ∈ zT := zT_mem (List.mem_append_right _ (List.mem_append_left _ (List.mem_of_getElem? (i := 51) rfl))) rfl
theorem mf_D_46 : Cond.fieldLink R_D 46 "SigmaDesk" "kept" "LSigmaDesk$Transcript;" ∈ zT := zT_mem (List.mem_append_right _ (List.mem_append_left _ (List.mem_of_getElem? (i := 52) rfl))) rfl
theorem mf_D_49 : Cond.fieldLink R_D 49 "SigmaDesk" "isKept" "Z" ∈ zT := zT_mem (List.mem_append_right _ (List.mem_append_left _ (List.mem_of_getElem? (i := 53) rfl))) rfl
theorem mf_D_53 : Cond.fieldLink R_D 53 "SigmaDesk" "canRespond" "Z" ∈ zT := zT_mem (List.mem_append_right _ (List.mem_append_left _ (List.mem_of_getElem? (i := 54) rfl))) rfl
theorem my_D_stack : Cond.laysFinal R_D R_D "stack" "[LSigmaDesk$Statement;" ∈ zT := zT_mem (List.mem_append_right _ (List.mem_append_left _ (List.mem_of_getElem? (i := 55) rfl))) rfl
theorem my_D_height : Cond.lays R_D R_D "height" "I" ∈ zT := zT_mem (List.mem_append_right _ (List.mem_append_left _ (List.mem_of_getElem? (i := 57) rfl))) rfl
theorem my_D_tree : Cond.lays R_D R_D "tree" "LSigmaDesk$Statement;" ∈ zT := zT_mem (List.mem_append_right _ (List.mem_append_left _ (List.mem_of_getElem? (i := 59) rfl))) rfl
theorem my_D_leaves : Cond.laysFinal R_D R_D "leaves" "[LSigmaDesk$Leaf;" ∈ zT := zT_mem (List.mem_append_right _ (List.mem_append_left _ (List.mem_of_getElem? (i := 61) rfl))) rfl
theorem my_D_leafCount : Cond.lays R_D R_D "leafCount" "I" ∈ zT := zT_mem (List.mem_append_right _ (List.mem_append_left _ (List.mem_of_getElem? (i := 63) rfl))) rfl
theorem my_D_drawing : Cond.laysFinal R_D R_D "drawing" "LSigmaDesk$Drawing;" ∈ zT := zT_mem (List.mem_append_right _ (List.mem_append_left _ (List.mem_of_getElem? (i := 65) rfl))) rfl
theorem my_D_present : Cond.laysFinal R_D R_D "present" "LSigmaDesk$Transcript;" ∈ zT := zT_mem (List.mem_append_right _ (List.mem_append_left _ (List.mem_of_getElem? (i := 67) rfl))) rfl
theorem my_D_kept : Cond.laysFinal R_D R_D "kept" "LSigmaDesk$Transcript;" ∈ zT := zT_mem (List.mem_append_right _ (List.mem_append_left _ (List.mem_of_getElem? (i := 69) rfl))) rfl
theorem my_D_isKept : Cond.lays R_D R_D "isKept" "Z" ∈ zT := zT_mem (List.mem_append_right _ (List.mem_append_left _ (List.mem_of_getElem? (i := 71) rfl))) rfl
theorem my_D_canRespond : Cond.lays R_D R_D "canRespond" "Z" ∈ zT := zT_mem (List.mem_append_right _ (List.mem_append_left _ (List.mem_of_getElem? (i := 73) rfl))) rfl
theorem mk_L_13 : Cond.methodLink R_L 13 y_D_power ∈ zT := zT_mem (List.mem_append_right _ (List.mem_append_left _ (List.mem_of_getElem? (i := 76) rfl))) rfl
theorem mo_D_power : Cond.instanceMethod y_D_power ∈ zT := zT_mem (List.mem_append_right _ (List.mem_append_left _ (List.mem_of_getElem? (i := 77) rfl))) rfl
theorem me_D_D_power_D : Cond.selects R_D y_D_power y_D_power ∈ zT := zT_mem (List.mem_append_right _ (List.mem_append_left _ (List.mem_of_getElem? (i := 78) rfl))) rfl
theorem mc_D_power : Cond.code y_D_power c_D_power 3 (some .int) ∈ zT := zT_mem (List.mem_append_right _ (List.mem_append_left _ (List.mem_of_getElem? (i := 79) rfl))) rfl
theorem mk_D_56 : Cond.methodLink R_D 56 y_D_isElement ∈ zT := zT_mem (List.mem_append_right _ (List.mem_append_left _ (List.mem_of_getElem? (i := 80) rfl))) rfl
theorem ms_D_isElement : Cond.static y_D_isElement ∈ zT := zT_mem (List.mem_append_right _ (List.mem_append_left _ (List.mem_of_getElem? (i := 81) rfl))) rfl
theorem mc_D_isElement : Cond.code y_D_isElement c_D_isElement 1 (some .boolean) ∈ zT := zT_mem (List.mem_append_right _ (List.mem_append_left _ (List.mem_of_getElem? (i := 82) rfl))) rfl
theorem mk_D_63 : Cond.methodLink R_D 63 y_D_raise ∈ zT := zT_mem (List.mem_append_right _ (List.mem_append_left _ (List.mem_of_getElem? (i := 83) rfl))) rfl
theorem ms_D_raise : Cond.static y_D_raise ∈ zT := zT_mem (List.mem_append_right _ (List.mem_append_left _ (List.mem_of_getElem? (i := 84) rfl))) rfl
theorem mc_D_raise : Cond.code y_D_raise c_D_raise 5 (some .int) ∈ zT := zT_mem (List.mem_append_right _ (List.mem_append_left _ (List.mem_of_getElem? (i := 85) rfl))) rfl
theorem mk_D_60 : Cond.methodLink R_D 60 y_D_isExponent ∈ zT := zT_mem (List.mem_append_right _ (List.mem_append_left _ (List.mem_of_getElem? (i := 86) rfl))) rfl
theorem ms_D_isExponent : Cond.static y_D_isExponent ∈ zT := zT_mem (List.mem_append_right _ (List.mem_append_left _ (List.mem_of_getElem? (i := 87) rfl))) rfl
theorem mc_D_isExponent : Cond.code y_D_isExponent c_D_isExponent 1 (some .boolean) ∈ zT := zT_mem (List.mem_append_right _ (List.mem_append_left _ (List.mem_of_getElem? (i := 88) rfl))) rfl
theorem mk_L_18 : Cond.methodLink R_L 18 y_D_leaf ∈ zT := zT_mem (List.mem_append_right _ (List.mem_append_left _ (List.mem_of_getElem? (i := 89) rfl))) rfl
theorem mo_D_leaf : Cond.instanceMethod y_D_leaf ∈ zT := zT_mem (List.mem_append_right _ (List.mem_append_left _ (List.mem_of_getElem? (i := 90) rfl))) rfl
theorem me_D_D_leaf_D : Cond.selects R_D y_D_leaf y_D_leaf ∈ zT := zT_mem (List.mem_append_right _ (List.mem_append_left _ (List.mem_of_getElem? (i := 91) rfl))) rfl
theorem mc_D_leaf : Cond.code y_D_leaf c_D_leaf 3 (some .boolean) ∈ zT := zT_mem (List.mem_append_right _ (List.mem_append_left _ (List.mem_of_getElem? (i := 92) rfl))) rfl
theorem mk_D_67 : Cond.methodLink R_D 67 y_D_isFull ∈ zT := zT_mem (List.mem_append_right _ (List.mem_append_left _ (List.mem_of_getElem? (i := 93) rfl))) rfl
theorem mo_D_isFull : Cond.instanceMethod y_D_isFull ∈ zT := zT_mem (List.mem_append_right _ (List.mem_append_left _ (List.mem_of_getElem? (i := 95) rfl))) rfl
theorem mc_D_isFull : Cond.code y_D_isFull c_D_isFull 1 (some .boolean) ∈ zT := zT_mem (List.mem_append_right _ (List.mem_append_left _ (List.mem_of_getElem? (i := 96) rfl))) rfl
theorem mk_D_71 : Cond.methodLink R_D 71 y_D_isPair ∈ zT := zT_mem (List.mem_append_right _ (List.mem_append_left _ (List.mem_of_getElem? (i := 97) rfl))) rfl
theorem ms_D_isPair : Cond.static y_D_isPair ∈ zT := zT_mem (List.mem_append_right _ (List.mem_append_left _ (List.mem_of_getElem? (i := 98) rfl))) rfl
theorem mc_D_isPair : Cond.code y_D_isPair c_D_isPair 2 (some .boolean) ∈ zT := zT_mem (List.mem_append_right _ (List.mem_append_left _ (List.mem_of_getElem? (i := 99) rfl))) rfl
theorem mt_F : Cond.instantiable R_F 7 ∈ zT := zT_mem (List.mem_append_right _ (List.mem_append_left _ (List.mem_of_getElem? (i := 100) rfl))) rfl
theorem mk_D_75 : Cond.methodLink R_D 75 y_F_init ∈ zT := zT_mem (List.mem_append_right _ (List.mem_append_left _ (List.mem_of_getElem? (i := 101) rfl))) rfl
theorem mo_F_init : Cond.instanceMethod y_F_init ∈ zT := zT_mem (List.mem_append_right _ (List.mem_append_left _ (List.mem_of_getElem? (i := 102) rfl))) rfl
theorem mc_F_init : Cond.code y_F_init c_F_init 3 none ∈ zT := zT_mem (List.mem_append_right _ (List.mem_append_left _ (List.mem_of_getElem? (i := 103) rfl))) rfl
theorem mk_F_3 : Cond.methodLink R_F 3 y_S_init ∈ zT := zT_mem (List.mem_append_right _ (List.mem_append_left _ (List.mem_of_getElem? (i := 104) rfl))) rfl
theorem mo_S_init : Cond.instanceMethod y_S_init ∈ zT := zT_mem (List.mem_append_right _ (List.mem_append_left _ (List.mem_of_getElem? (i := 105) rfl))) rfl
theorem mc_S_init : Cond.code y_S_init c_S_init 2 none ∈ zT := zT_mem (List.mem_append_right _ (List.mem_append_left _ (List.mem_of_getElem? (i := 106) rfl))) rfl
theorem mk_S_1 : Cond.methodLink R_S 1 y_B_init ∈ zT := zT_mem (List.mem_append_right _ (List.mem_append_left _ (List.mem_of_getElem? (i := 107) rfl))) rfl
theorem mf_F_9 : Cond.fieldLink R_F 9 "SigmaDesk$Leaf" "bases" "[I" ∈ zT := zT_mem (List.mem_append_right _ (List.mem_append_left _ (List.mem_of_getElem? (i := 108) rfl))) rfl
theorem mf_F_15 : Cond.fieldLink R_F 15 "SigmaDesk$Leaf" "elements" "[I" ∈ zT := zT_mem (List.mem_append_right _ (List.mem_append_left _ (List.mem_of_getElem? (i := 109) rfl))) rfl
theorem mf_F_30 : Cond.fieldLink R_F 30 "SigmaDesk$Leaf" "number" "I" ∈ zT := zT_mem (List.mem_append_right _ (List.mem_append_left _ (List.mem_of_getElem? (i := 110) rfl))) rfl
theorem mf_F_22 : Cond.fieldLink R_F 22 "SigmaDesk$Leaf" "told" "Z" ∈ zT := zT_mem (List.mem_append_right _ (List.mem_append_left _ (List.mem_of_getElem? (i := 111) rfl))) rfl
theorem mf_F_26 : Cond.fieldLink R_F 26 "SigmaDesk$Leaf" "witness" "I" ∈ zT := zT_mem (List.mem_append_right _ (List.mem_append_left _ (List.mem_of_getElem? (i := 112) rfl))) rfl
theorem mf_D_116 : Cond.fieldLinkNest R_D 116 "SigmaDesk$Leaf" "witness" "I" "SigmaDesk" ∈ lw_tbl := List.mem_append_right _ (List.mem_append_left _ (List.mem_of_getElem? (i := 113) rfl))
theorem mf_F_45 : Cond.fieldLink R_F 45 "SigmaDesk$Leaf" "nonce" "I" ∈ zT := zT_mem (List.mem_append_right _ (List.mem_append_left _ (List.mem_of_getElem? (i := 114) rfl))) rfl
theorem mf_J_1 : Cond.fieldLink R_J 1 "SigmaDesk$Statement" "size" "I" ∈ zT := zT_mem (List.mem_append_right _ (List.mem_append_left _ (List.mem_of_getElem? (i := 115) rfl))) rfl
theorem mf_S_7 : Cond.fieldLink R_S 7 "SigmaDesk$Statement" "size" "I" ∈ zT := zT_mem (List.mem_append_right _ (List.mem_append_left _ (List.mem_of_getElem? (i := 116) rfl))) rfl
theorem mf_D_82 : Cond.fieldLink R_D 82 "SigmaDesk$Statement" "size" "I" ∈ zT := zT_mem (List.mem_append_right _ (List.mem_append_left _ (List.mem_of_getElem? (i := 117) rfl))) rfl
theorem my_F_bases : Cond.laysFinal R_F R_F "bases" "[I" ∈ zT := zT_mem (List.mem_append_right _ (List.mem_append_left _ (List.mem_of_getElem? (i := 118) rfl))) rfl
theorem my_F_elements : Cond.laysFinal R_F R_F "elements" "[I" ∈ zT := zT_mem (List.mem_append_right _ (List.mem_append_left _ (List.mem_of_getElem? (i := 120) rfl))) rfl
theorem my_F_number : Cond.lays R_F R_F "number" "I" ∈ zT := zT_mem (List.mem_append_right _ (List.mem_append_left _ (List.mem_of_getElem? (i := 122) rfl))) rfl
theorem my_F_told : Cond.lays R_F R_F "told" "Z" ∈ zT := zT_mem (List.mem_append_right _ (List.mem_append_left _ (List.mem_of_getElem? (i := 124) rfl))) rfl
theorem my_F_witness : Cond.lays R_F R_F "witness" "I" ∈ zT := zT_mem (List.mem_append_right _ (List.mem_append_left _ (List.mem_of_getElem? (i := 126) rfl))) rfl
theorem my_F_nonce : Cond.lays R_F R_F "nonce" "I" ∈ zT := zT_mem (List.mem_append_right _ (List.mem_append_left _ (List.mem_of_getElem? (i := 128) rfl))) rfl
theorem my_F_size : Cond.laysFinal R_F R_S "size" "I" ∈ zT := zT_mem (List.mem_append_right _ (List.mem_append_left _ (List.mem_of_getElem? (i := 130) rfl))) rfl
theorem mk_D_78 : Cond.methodLink R_D 78 y_D_push ∈ zT := zT_mem (List.mem_append_right _ (List.mem_append_left _ (List.mem_of_getElem? (i := 133) rfl))) rfl
theorem mo_D_push : Cond.instanceMethod y_D_push ∈ zT := zT_mem (List.mem_append_right _ (List.mem_append_left _ (List.mem_of_getElem? (i := 135) rfl))) rfl
theorem mc_D_push : Cond.code y_D_push c_D_push 2 none ∈ zT := zT_mem (List.mem_append_right _ (List.mem_append_left _ (List.mem_of_getElem? (i := 136) rfl))) rfl
theorem mk_L_23 : Cond.methodLink R_L 23 y_D_equal ∈ zT := zT_mem (List.mem_append_right _ (List.mem_append_left _ (List.mem_of_getElem? (i := 137) rfl))) rfl
theorem mo_D_equal : Cond.instanceMethod y_D_equal ∈ zT := zT_mem (List.mem_append_right _ (List.mem_append_left _ (List.mem_of_getElem? (i := 138) rfl))) rfl
theorem me_D_D_equal_D : Cond.selects R_D y_D_equal y_D_equal ∈ zT := zT_mem (List.mem_append_right _ (List.mem_append_left _ (List.mem_of_getElem? (i := 139) rfl))) rfl
theorem mc_D_equal : Cond.code y_D_equal c_D_equal 5 (some .boolean) ∈ zT := zT_mem (List.mem_append_right _ (List.mem_append_left _ (List.mem_of_getElem? (i := 140) rfl))) rfl
theorem mk_L_28 : Cond.methodLink R_L 28 y_D_join ∈ zT := zT_mem (List.mem_append_right _ (List.mem_append_left _ (List.mem_of_getElem? (i := 141) rfl))) rfl
theorem mo_D_join : Cond.instanceMethod y_D_join ∈ zT := zT_mem (List.mem_append_right _ (List.mem_append_left _ (List.mem_of_getElem? (i := 142) rfl))) rfl
theorem me_D_D_join_D : Cond.selects R_D y_D_join y_D_join ∈ zT := zT_mem (List.mem_append_right _ (List.mem_append_left _ (List.mem_of_getElem? (i := 143) rfl))) rfl
theorem mc_D_join : Cond.code y_D_join c_D_join 4 (some .boolean) ∈ zT := zT_mem (List.mem_append_right _ (List.mem_append_left _ (List.mem_of_getElem? (i := 144) rfl))) rfl
theorem mk_D_85 : Cond.methodLink R_D 85 y_D_drop ∈ zT := zT_mem (List.mem_append_right _ (List.mem_append_left _ (List.mem_of_getElem? (i := 145) rfl))) rfl
theorem mo_D_drop : Cond.instanceMethod y_D_drop ∈ zT := zT_mem (List.mem_append_right _ (List.mem_append_left _ (List.mem_of_getElem? (i := 147) rfl))) rfl
theorem mc_D_drop : Cond.code y_D_drop c_D_drop 1 none ∈ zT := zT_mem (List.mem_append_right _ (List.mem_append_left _ (List.mem_of_getElem? (i := 148) rfl))) rfl
theorem ml_D_88 : Cond.classLink R_D 88 R_A ∈ zT := zT_mem (List.mem_append_right _ (List.mem_append_left _ (List.mem_of_getElem? (i := 149) rfl))) rfl
theorem mt_A : Cond.instantiable R_A 3 ∈ zT := zT_mem (List.mem_append_right _ (List.mem_append_left _ (List.mem_of_getElem? (i := 150) rfl))) rfl
theorem mk_D_90 : Cond.methodLink R_D 90 y_A_init ∈ zT := zT_mem (List.mem_append_right _ (List.mem_append_left _ (List.mem_of_getElem? (i := 151) rfl))) rfl
theorem mo_A_init : Cond.instanceMethod y_A_init ∈ zT := zT_mem (List.mem_append_right _ (List.mem_append_left _ (List.mem_of_getElem? (i := 152) rfl))) rfl
theorem mc_A_init : Cond.code y_A_init c_A_init 3 none ∈ zT := zT_mem (List.mem_append_right _ (List.mem_append_left _ (List.mem_of_getElem? (i := 153) rfl))) rfl
theorem mk_A_3 : Cond.methodLink R_A 3 y_J_init ∈ zT := zT_mem (List.mem_append_right _ (List.mem_append_left _ (List.mem_of_getElem? (i := 154) rfl))) rfl
theorem mo_J_init : Cond.instanceMethod y_J_init ∈ zT := zT_mem (List.mem_append_right _ (List.mem_append_left _ (List.mem_of_getElem? (i := 155) rfl))) rfl
theorem mc_J_init : Cond.code y_J_init c_J_init 3 none ∈ zT := zT_mem (List.mem_append_right _ (List.mem_append_left _ (List.mem_of_getElem? (i := 156) rfl))) rfl
theorem mk_J_7 : Cond.methodLink R_J 7 y_S_init ∈ zT := zT_mem (List.mem_append_right _ (List.mem_append_left _ (List.mem_of_getElem? (i := 157) rfl))) rfl
theorem mf_J_11 : Cond.fieldLink R_J 11 "SigmaDesk$Join" "left" "LSigmaDesk$Statement;" ∈ zT := zT_mem (List.mem_append_right _ (List.mem_append_left _ (List.mem_of_getElem? (i := 158) rfl))) rfl
theorem mf_A_9 : Cond.fieldLink R_A 9 "SigmaDesk$And" "left" "LSigmaDesk$Statement;" ∈ zT := zT_mem (List.mem_append_right _ (List.mem_append_left _ (List.mem_of_getElem? (i := 159) rfl))) rfl
theorem mF_A_left : Cond.sameField R_A R_J "left" "LSigmaDesk$Statement;" ∈ zT := zT_mem (List.mem_append_right _ (List.mem_append_left _ (List.mem_of_getElem? (i := 160) rfl))) rfl
theorem mf_O_9 : Cond.fieldLink R_O 9 "SigmaDesk$Or" "left" "LSigmaDesk$Statement;" ∈ zT := zT_mem (List.mem_append_right _ (List.mem_append_left _ (List.mem_of_getElem? (i := 161) rfl))) rfl
theorem mF_O_left : Cond.sameField R_O R_J "left" "LSigmaDesk$Statement;" ∈ zT := zT_mem (List.mem_append_right _ (List.mem_append_left _ (List.mem_of_getElem? (i := 162) rfl))) rfl
theorem mf_J_17 : Cond.fieldLink R_J 17 "SigmaDesk$Join" "right" "LSigmaDesk$Statement;" ∈ zT := zT_mem (List.mem_append_right _ (List.mem_append_left _ (List.mem_of_getElem? (i := 163) rfl))) rfl
theorem mf_O_21 : Cond.fieldLink R_O 21 "SigmaDesk$Or" "right" "LSigmaDesk$Statement;" ∈ zT := zT_mem (List.mem_append_right _ (List.mem_append_left _ (List.mem_of_getElem? (i := 164) rfl))) rfl
theorem mF_O_right : Cond.sameField R_O R_J "right" "LSigmaDesk$Statement;" ∈ zT := zT_mem (List.mem_append_right _ (List.mem_append_left _ (List.mem_of_getElem? (i := 165) rfl))) rfl
theorem mf_A_21 : Cond.fieldLink R_A 21 "SigmaDesk$And" "right" "LSigmaDesk$Statement;" ∈ zT := zT_mem (List.mem_append_right _ (List.mem_append_left _ (List.mem_of_getElem? (i := 166) rfl))) rfl
theorem mF_A_right : Cond.sameField R_A R_J "right" "LSigmaDesk$Statement;" ∈ zT := zT_mem (List.mem_append_right _ (List.mem_append_left _ (List.mem_of_getElem? (i := 167) rfl))) rfl
theorem my_A_left : Cond.laysFinal R_A R_J "left" "LSigmaDesk$Statement;" ∈ zT := zT_mem (List.mem_append_right _ (List.mem_append_left _ (List.mem_of_getElem? (i := 168) rfl))) rfl
theorem my_A_right : Cond.laysFinal R_A R_J "right" "LSigmaDesk$Statement;" ∈ zT := zT_mem (List.mem_append_right _ (List.mem_append_left _ (List.mem_of_getElem? (i := 170) rfl))) rfl
theorem my_A_size : Cond.laysFinal R_A R_S "size" "I" ∈ zT := zT_mem (List.mem_append_right _ (List.mem_append_left _ (List.mem_of_getElem? (i := 172) rfl))) rfl
theorem ml_D_93 : Cond.classLink R_D 93 R_O ∈ zT := zT_mem (List.mem_append_right _ (List.mem_append_left _ (List.mem_of_getElem? (i := 174) rfl))) rfl
theorem mt_O : Cond.instantiable R_O 5 ∈ zT := zT_mem (List.mem_append_right _ (List.mem_append_left _ (List.mem_of_getElem? (i := 175) rfl))) rfl
theorem mk_D_95 : Cond.methodLink R_D 95 y_O_init ∈ zT := zT_mem (List.mem_append_right _ (List.mem_append_left _ (List.mem_of_getElem? (i := 176) rfl))) rfl
theorem mo_O_init : Cond.instanceMethod y_O_init ∈ zT := zT_mem (List.mem_append_right _ (List.mem_append_left _ (List.mem_of_getElem? (i := 177) rfl))) rfl
theorem mc_O_init : Cond.code y_O_init c_O_init 3 none ∈ zT := zT_mem (List.mem_append_right _ (List.mem_append_left _ (List.mem_of_getElem? (i := 178) rfl))) rfl
theorem mk_O_3 : Cond.methodLink R_O 3 y_J_init ∈ zT := zT_mem (List.mem_append_right _ (List.mem_append_left _ (List.mem_of_getElem? (i := 179) rfl))) rfl
theorem mf_O_24 : Cond.fieldLink R_O 24 "SigmaDesk$Or" "leftIsReal" "Z" ∈ zT := zT_mem (List.mem_append_right _ (List.mem_append_left _ (List.mem_of_getElem? (i := 180) rfl))) rfl
theorem mf_O_34 : Cond.fieldLink R_O 34 "SigmaDesk$Or" "otherChallenge" "I" ∈ zT := zT_mem (List.mem_append_right _ (List.mem_append_left _ (List.mem_of_getElem? (i := 181) rfl))) rfl
theorem my_O_leftIsReal : Cond.lays R_O R_O "leftIsReal" "Z" ∈ zT := zT_mem (List.mem_append_right _ (List.mem_append_left _ (List.mem_of_getElem? (i := 182) rfl))) rfl
theorem my_O_otherChallenge : Cond.lays R_O R_O "otherChallenge" "I" ∈ zT := zT_mem (List.mem_append_right _ (List.mem_append_left _ (List.mem_of_getElem? (i := 184) rfl))) rfl
theorem my_O_left : Cond.laysFinal R_O R_J "left" "LSigmaDesk$Statement;" ∈ zT := zT_mem (List.mem_append_right _ (List.mem_append_left _ (List.mem_of_getElem? (i := 186) rfl))) rfl
theorem my_O_right : Cond.laysFinal R_O R_J "right" "LSigmaDesk$Statement;" ∈ zT := zT_mem (List.mem_append_right _ (List.mem_append_left _ (List.mem_of_getElem? (i := 187) rfl))) rfl
theorem my_O_size : Cond.laysFinal R_O R_S "size" "I" ∈ zT := zT_mem (List.mem_append_right _ (List.mem_append_left _ (List.mem_of_getElem? (i := 188) rfl))) rfl
theorem mk_L_33 : Cond.methodLink R_L 33 y_D_discard ∈ zT := zT_mem (List.mem_append_right _ (List.mem_append_left _ (List.mem_of_getElem? (i := 190) rfl))) rfl
theorem mo_D_discard : Cond.instanceMethod y_D_discard ∈ zT := zT_mem (List.mem_append_right _ (List.mem_append_left _ (List.mem_of_getElem? (i := 191) rfl))) rfl
theorem me_D_D_discard_D : Cond.selects R_D y_D_discard y_D_discard ∈ zT := zT_mem (List.mem_append_right _ (List.mem_append_left _ (List.mem_of_getElem? (i := 192) rfl))) rfl
theorem mc_D_discard : Cond.code y_D_discard c_D_discard 1 (some .boolean) ∈ zT := zT_mem (List.mem_append_right _ (List.mem_append_left _ (List.mem_of_getElem? (i := 193) rfl))) rfl
theorem mk_L_38 : Cond.methodLink R_L 38 y_D_accept ∈ zT := zT_mem (List.mem_append_right _ (List.mem_append_left _ (List.mem_of_getElem? (i := 194) rfl))) rfl
theorem mo_D_accept : Cond.instanceMethod y_D_accept ∈ zT := zT_mem (List.mem_append_right _ (List.mem_append_left _ (List.mem_of_getElem? (i := 195) rfl))) rfl
theorem me_D_D_accept_D : Cond.selects R_D y_D_accept y_D_accept ∈ zT := zT_mem (List.mem_append_right _ (List.mem_append_left _ (List.mem_of_getElem? (i := 196) rfl))) rfl
theorem mc_D_accept : Cond.code y_D_accept c_D_accept 1 (some .int) ∈ zT := zT_mem (List.mem_append_right _ (List.mem_append_left _ (List.mem_of_getElem? (i := 197) rfl))) rfl
theorem mk_D_96 : Cond.methodLink R_D 96 y_S_numberLeaves ∈ zT := zT_mem (List.mem_append_right _ (List.mem_append_left _ (List.mem_of_getElem? (i := 198) rfl))) rfl
theorem md_S_numberLeaves : Cond.declares y_S_numberLeaves ∈ lw_tbl := List.mem_append_right _ (List.mem_append_left _ (List.mem_of_getElem? (i := 199) rfl))
theorem mm_S_S_numberLeaves : Cond.sameMethod R_S R_S "numberLeaves" "([LSigmaDesk$Leaf;I)I" ∈ zT := zT_mem (List.mem_append_right _ (List.mem_append_left _ (List.mem_of_getElem? (i := 200) rfl))) rfl
theorem me_A_S_numberLeaves_J : Cond.selects R_A y_S_numberLeaves y_J_numberLeaves ∈ zT := zT_mem (List.mem_append_right _ (List.mem_append_left _ (List.mem_of_getElem? (i := 201) rfl))) rfl
theorem mo_J_numberLeaves : Cond.instanceMethod y_J_numberLeaves ∈ zT := zT_mem (List.mem_append_right _ (List.mem_append_left _ (List.mem_of_getElem? (i := 202) rfl))) rfl
theorem mc_J_numberLeaves : Cond.code y_J_numberLeaves c_J_numberLeaves 3 (some .int) ∈ zT := zT_mem (List.mem_append_right _ (List.mem_append_left _ (List.mem_of_getElem? (i := 203) rfl))) rfl
theorem mk_J_20 : Cond.methodLink R_J 20 y_S_numberLeaves ∈ zT := zT_mem (List.mem_append_right _ (List.mem_append_left _ (List.mem_of_getElem? (i := 204) rfl))) rfl
theorem mo_F_numberLeaves : Cond.instanceMethod y_F_numberLeaves ∈ zT := zT_mem (List.mem_append_right _ (List.mem_append_left _ (List.mem_of_getElem? (i := 205) rfl))) rfl
theorem mc_F_numberLeaves : Cond.code y_F_numberLeaves c_F_numberLeaves 3 (some .int) ∈ zT := zT_mem (List.mem_append_right _ (List.mem_append_left _ (List.mem_of_getElem? (i := 206) rfl))) rfl
theorem me_F_S_numberLeaves_F : Cond.selects R_F y_S_numberLeaves y_F_numberLeaves ∈ zT := zT_mem (List.mem_append_right _ (List.mem_append_left _ (List.mem_of_getElem? (i := 207) rfl))) rfl
theorem me_O_S_numberLeaves_J : Cond.selects R_O y_S_numberLeaves y_J_numberLeaves ∈ zT := zT_mem (List.mem_append_right _ (List.mem_append_left _ (List.mem_of_getElem? (i := 208) rfl))) rfl
theorem mk_D_100 : Cond.methodLink R_D 100 y_T_clear ∈ zT := zT_mem (List.mem_append_right _ (List.mem_append_left _ (List.mem_of_getElem? (i := 209) rfl))) rfl
theorem mo_T_clear : Cond.instanceMethod y_T_clear ∈ zT := zT_mem (List.mem_append_right _ (List.mem_append_left _ (List.mem_of_getElem? (i := 210) rfl))) rfl
theorem me_T_T_clear_T : Cond.selects R_T y_T_clear y_T_clear ∈ zT := zT_mem (List.mem_append_right _ (List.mem_append_left _ (List.mem_of_getElem? (i := 211) rfl))) rfl
theorem mc_T_clear : Cond.code y_T_clear c_T_clear 1 none ∈ zT := zT_mem (List.mem_append_right _ (List.mem_append_left _ (List.mem_of_getElem? (i := 212) rfl))) rfl
theorem mk_T_15 : Cond.methodLink R_T 15 y_U_fill ∈ zT := zT_mem (List.mem_append_right _ (List.mem_append_left _ (List.mem_of_getElem? (i := 213) rfl))) rfl
theorem ms_U_fill : Cond.static y_U_fill ∈ zT := zT_mem (List.mem_append_right _ (List.mem_append_left _ (List.mem_of_getElem? (i := 214) rfl))) rfl
theorem mc_U_fill : Cond.code y_U_fill c_U_fill 4 none ∈ zT := zT_mem (List.mem_append_right _ (List.mem_append_left _ (List.mem_of_getElem? (i := 215) rfl))) rfl
theorem mk_L_43 : Cond.methodLink R_L 43 y_D_tell ∈ zT := zT_mem (List.mem_append_right _ (List.mem_append_left _ (List.mem_of_getElem? (i := 216) rfl))) rfl
theorem mo_D_tell : Cond.instanceMethod y_D_tell ∈ zT := zT_mem (List.mem_append_right _ (List.mem_append_left _ (List.mem_of_getElem? (i := 217) rfl))) rfl
theorem me_D_D_tell_D : Cond.selects R_D y_D_tell y_D_tell ∈ zT := zT_mem (List.mem_append_right _ (List.mem_append_left _ (List.mem_of_getElem? (i := 218) rfl))) rfl
theorem mc_D_tell : Cond.code y_D_tell c_D_tell 3 (some .boolean) ∈ zT := zT_mem (List.mem_append_right _ (List.mem_append_left _ (List.mem_of_getElem? (i := 219) rfl))) rfl
theorem mk_D_103 : Cond.methodLink R_D 103 y_D_isLeaf ∈ zT := zT_mem (List.mem_append_right _ (List.mem_append_left _ (List.mem_of_getElem? (i := 220) rfl))) rfl
theorem mo_D_isLeaf : Cond.instanceMethod y_D_isLeaf ∈ zT := zT_mem (List.mem_append_right _ (List.mem_append_left _ (List.mem_of_getElem? (i := 222) rfl))) rfl
theorem mc_D_isLeaf : Cond.code y_D_isLeaf c_D_isLeaf 2 (some .boolean) ∈ zT := zT_mem (List.mem_append_right _ (List.mem_append_left _ (List.mem_of_getElem? (i := 223) rfl))) rfl
theorem mk_D_106 : Cond.methodLink R_D 106 y_F_fits ∈ zT := zT_mem (List.mem_append_right _ (List.mem_append_left _ (List.mem_of_getElem? (i := 224) rfl))) rfl
theorem mo_F_fits : Cond.instanceMethod y_F_fits ∈ zT := zT_mem (List.mem_append_right _ (List.mem_append_left _ (List.mem_of_getElem? (i := 225) rfl))) rfl
theorem me_F_F_fits_F : Cond.selects R_F y_F_fits y_F_fits ∈ zT := zT_mem (List.mem_append_right _ (List.mem_append_left _ (List.mem_of_getElem? (i := 226) rfl))) rfl
theorem mc_F_fits : Cond.code y_F_fits c_F_fits 3 (some .boolean) ∈ zT := zT_mem (List.mem_append_right _ (List.mem_append_left _ (List.mem_of_getElem? (i := 227) rfl))) rfl
theorem mk_F_18 : Cond.methodLinkNest R_F 18 y_D_raise "SigmaDesk" ∈ lw_tbl := List.mem_append_right _ (List.mem_append_left _ (List.mem_of_getElem? (i := 228) rfl))
theorem mk_D_109 : Cond.methodLink R_D 109 y_F_learn ∈ zT := zT_mem (List.mem_append_right _ (List.mem_append_left _ (List.mem_of_getElem? (i := 229) rfl))) rfl
theorem mo_F_learn : Cond.instanceMethod y_F_learn ∈ zT := zT_mem (List.mem_append_right _ (List.mem_append_left _ (List.mem_of_getElem? (i := 230) rfl))) rfl
theorem me_F_F_learn_F : Cond.selects R_F y_F_learn y_F_learn ∈ zT := zT_mem (List.mem_append_right _ (List.mem_append_left _ (List.mem_of_getElem? (i := 231) rfl))) rfl
theorem mc_F_learn : Cond.code y_F_learn c_F_learn 2 none ∈ zT := zT_mem (List.mem_append_right _ (List.mem_append_left _ (List.mem_of_getElem? (i := 232) rfl))) rfl
theorem mk_L_47 : Cond.methodLink R_L 47 y_D_witness ∈ zT := zT_mem (List.mem_append_right _ (List.mem_append_left _ (List.mem_of_getElem? (i := 233) rfl))) rfl
theorem mo_D_witness : Cond.instanceMethod y_D_witness ∈ zT := zT_mem (List.mem_append_right _ (List.mem_append_left _ (List.mem_of_getElem? (i := 234) rfl))) rfl
theorem me_D_D_witness_D : Cond.selects R_D y_D_witness y_D_witness ∈ zT := zT_mem (List.mem_append_right _ (List.mem_append_left _ (List.mem_of_getElem? (i := 235) rfl))) rfl
theorem mc_D_witness : Cond.code y_D_witness c_D_witness 2 (some .int) ∈ zT := zT_mem (List.mem_append_right _ (List.mem_append_left _ (List.mem_of_getElem? (i := 236) rfl))) rfl
theorem mk_D_113 : Cond.methodLink R_D 113 y_F_isKnown ∈ zT := zT_mem (List.mem_append_right _ (List.mem_append_left _ (List.mem_of_getElem? (i := 237) rfl))) rfl
theorem mo_F_isKnown : Cond.instanceMethod y_F_isKnown ∈ zT := zT_mem (List.mem_append_right _ (List.mem_append_left _ (List.mem_of_getElem? (i := 238) rfl))) rfl
theorem me_F_F_isKnown_F : Cond.selects R_F y_F_isKnown y_F_isKnown ∈ zT := zT_mem (List.mem_append_right _ (List.mem_append_left _ (List.mem_of_getElem? (i := 239) rfl))) rfl
theorem mc_F_isKnown : Cond.code y_F_isKnown c_F_isKnown 1 (some .boolean) ∈ zT := zT_mem (List.mem_append_right _ (List.mem_append_right _ (List.mem_append_left _ (List.mem_of_getElem? (i := 0) rfl)))) rfl
theorem mk_L_52 : Cond.methodLink R_L 52 y_D_known ∈ zT := zT_mem (List.mem_append_right _ (List.mem_append_right _ (List.mem_append_left _ (List.mem_of_getElem? (i := 1) rfl)))) rfl
theorem mo_D_known : Cond.instanceMethod y_D_known ∈ zT := zT_mem (List.mem_append_right _ (List.mem_append_right _ (List.mem_append_left _ (List.mem_of_getElem? (i := 2) rfl)))) rfl
theorem me_D_D_known_D : Cond.selects R_D y_D_known y_D_known ∈ zT := zT_mem (List.mem_append_right _ (List.mem_append_right _ (List.mem_append_left _ (List.mem_of_getElem? (i := 3) rfl)))) rfl
theorem mc_D_known : Cond.code y_D_known c_D_known 1 (some .boolean) ∈ zT := zT_mem (List.mem_append_right _ (List.mem_append_right _ (List.mem_append_left _ (List.mem_of_getElem? (i := 4) rfl)))) rfl
theorem mk_D_119 : Cond.methodLink R_D 119 y_S_isKnown ∈ zT := zT_mem (List.mem_append_right _ (List.mem_append_right _ (List.mem_append_left _ (List.mem_of_getElem? (i := 5) rfl)))) rfl
theorem md_S_isKnown : Cond.declares y_S_isKnown ∈ lw_tbl := List.mem_append_right _ (List.mem_append_right _ (List.mem_append_left _ (List.mem_of_getElem? (i := 6) rfl)))
theorem mm_S_S_isKnown : Cond.sameMethod R_S R_S "isKnown" "()Z" ∈ zT := zT_mem (List.mem_append_right _ (List.mem_append_right _ (List.mem_append_left _ (List.mem_of_getElem? (i := 7) rfl)))) rfl
theorem me_A_S_isKnown_A : Cond.selects R_A y_S_isKnown y_A_isKnown ∈ zT := zT_mem (List.mem_append_right _ (List.mem_append_right _ (List.mem_append_left _ (List.mem_of_getElem? (i := 8) rfl)))) rfl
theorem mo_A_isKnown : Cond.instanceMethod y_A_isKnown ∈ zT := zT_mem (List.mem_append_right _ (List.mem_append_right _ (List.mem_append_left _ (List.mem_of_getElem? (i := 9) rfl)))) rfl
theorem mc_A_isKnown : Cond.code y_A_isKnown c_A_isKnown 1 (some .boolean) ∈ zT := zT_mem (List.mem_append_right _ (List.mem_append_right _ (List.mem_append_left _ (List.mem_of_getElem? (i := 10) rfl)))) rfl
theorem mk_A_15 : Cond.methodLink R_A 15 y_S_isKnown ∈ zT := zT_mem (List.mem_append_right _ (List.mem_append_right _ (List.mem_append_left _ (List.mem_of_getElem? (i := 11) rfl)))) rfl
theorem mo_O_isKnown : Cond.instanceMethod y_O_isKnown ∈ zT := zT_mem (List.mem_append_right _ (List.mem_append_right _ (List.mem_append_left _ (List.mem_of_getElem? (i := 12) rfl)))) rfl
theorem mc_O_isKnown : Cond.code y_O_isKnown c_O_isKnown 1 (some .boolean) ∈ zT := zT_mem (List.mem_append_right _ (List.mem_append_right _ (List.mem_append_left _ (List.mem_of_getElem? (i := 13) rfl)))) rfl
theorem mk_O_15 : Cond.methodLink R_O 15 y_S_isKnown ∈ zT := zT_mem (List.mem_append_right _ (List.mem_append_right _ (List.mem_append_left _ (List.mem_of_getElem? (i := 14) rfl)))) rfl
theorem me_F_S_isKnown_F : Cond.selects R_F y_S_isKnown y_F_isKnown ∈ zT := zT_mem (List.mem_append_right _ (List.mem_append_right _ (List.mem_append_left _ (List.mem_of_getElem? (i := 15) rfl)))) rfl
theorem me_O_S_isKnown_O : Cond.selects R_O y_S_isKnown y_O_isKnown ∈ zT := zT_mem (List.mem_append_right _ (List.mem_append_right _ (List.mem_append_left _ (List.mem_of_getElem? (i := 16) rfl)))) rfl
theorem mk_L_56 : Cond.methodLink R_L 56 y_D_commit ∈ zT := zT_mem (List.mem_append_right _ (List.mem_append_right _ (List.mem_append_left _ (List.mem_of_getElem? (i := 17) rfl)))) rfl
theorem mo_D_commit : Cond.instanceMethod y_D_commit ∈ zT := zT_mem (List.mem_append_right _ (List.mem_append_right _ (List.mem_append_left _ (List.mem_of_getElem? (i := 18) rfl)))) rfl
theorem me_D_D_commit_D : Cond.selects R_D y_D_commit y_D_commit ∈ zT := zT_mem (List.mem_append_right _ (List.mem_append_right _ (List.mem_append_left _ (List.mem_of_getElem? (i := 19) rfl)))) rfl
theorem mc_D_commit : Cond.code y_D_commit c_D_commit 2 (some .int) ∈ zT := zT_mem (List.mem_append_right _ (List.mem_append_right _ (List.mem_append_left _ (List.mem_of_getElem? (i := 20) rfl)))) rfl
theorem mk_D_120 : Cond.methodLink R_D 120 y_G_start ∈ zT := zT_mem (List.mem_append_right _ (List.mem_append_right _ (List.mem_append_left _ (List.mem_of_getElem? (i := 21) rfl)))) rfl
theorem mo_G_start : Cond.instanceMethod y_G_start ∈ zT := zT_mem (List.mem_append_right _ (List.mem_append_right _ (List.mem_append_left _ (List.mem_of_getElem? (i := 22) rfl)))) rfl
theorem me_G_G_start_G : Cond.selects R_G y_G_start y_G_start ∈ zT := zT_mem (List.mem_append_right _ (List.mem_append_right _ (List.mem_append_left _ (List.mem_of_getElem? (i := 23) rfl)))) rfl
theorem mc_G_start : Cond.code y_G_start c_G_start 2 none ∈ zT := zT_mem (List.mem_append_right _ (List.mem_append_right _ (List.mem_append_left _ (List.mem_of_getElem? (i := 24) rfl)))) rfl
theorem mk_D_123 : Cond.methodLink R_D 123 y_S_commitReal ∈ zT := zT_mem (List.mem_append_right _ (List.mem_append_right _ (List.mem_append_left _ (List.mem_of_getElem? (i := 25) rfl)))) rfl
theorem md_S_commitReal : Cond.declares y_S_commitReal ∈ lw_tbl := List.mem_append_right _ (List.mem_append_right _ (List.mem_append_left _ (List.mem_of_getElem? (i := 26) rfl)))
theorem mm_S_S_commitReal : Cond.sameMethod R_S R_S "commitReal" "(LSigmaDesk$Transcript;LSigmaDesk$Drawing;)V" ∈ zT := zT_mem (List.mem_append_right _ (List.mem_append_right _ (List.mem_append_left _ (List.mem_of_getElem? (i := 27) rfl)))) rfl
theorem me_A_S_commitReal_A : Cond.selects R_A y_S_commitReal y_A_commitReal ∈ zT := zT_mem (List.mem_append_right _ (List.mem_append_right _ (List.mem_append_left _ (List.mem_of_getElem? (i := 28) rfl)))) rfl
theorem mo_A_commitReal : Cond.instanceMethod y_A_commitReal ∈ zT := zT_mem (List.mem_append_right _ (List.mem_append_right _ (List.mem_append_left _ (List.mem_of_getElem? (i := 29) rfl)))) rfl
theorem mc_A_commitReal : Cond.code y_A_commitReal c_A_commitReal 3 none ∈ zT := zT_mem (List.mem_append_right _ (List.mem_append_right _ (List.mem_append_left _ (List.mem_of_getElem? (i := 30) rfl)))) rfl
theorem mk_A_24 : Cond.methodLink R_A 24 y_S_commitReal ∈ zT := zT_mem (List.mem_append_right _ (List.mem_append_right _ (List.mem_append_left _ (List.mem_of_getElem? (i := 31) rfl)))) rfl
theorem mo_F_commitReal : Cond.instanceMethod y_F_commitReal ∈ zT := zT_mem (List.mem_append_right _ (List.mem_append_right _ (List.mem_append_left _ (List.mem_of_getElem? (i := 32) rfl)))) rfl
theorem mc_F_commitReal : Cond.code y_F_commitReal c_F_commitReal 4 none ∈ zT := zT_mem (List.mem_append_right _ (List.mem_append_right _ (List.mem_append_left _ (List.mem_of_getElem? (i := 33) rfl)))) rfl
theorem mk_F_39 : Cond.methodLink R_F 39 y_G_draw ∈ zT := zT_mem (List.mem_append_right _ (List.mem_append_right _ (List.mem_append_left _ (List.mem_of_getElem? (i := 34) rfl)))) rfl
theorem mo_G_draw : Cond.instanceMethod y_G_draw ∈ zT := zT_mem (List.mem_append_right _ (List.mem_append_right _ (List.mem_append_left _ (List.mem_of_getElem? (i := 35) rfl)))) rfl
theorem me_G_G_draw_G : Cond.selects R_G y_G_draw y_G_draw ∈ zT := zT_mem (List.mem_append_right _ (List.mem_append_right _ (List.mem_append_left _ (List.mem_of_getElem? (i := 36) rfl)))) rfl
theorem mc_G_draw : Cond.code y_G_draw c_G_draw 1 (some .int) ∈ zT := zT_mem (List.mem_append_right _ (List.mem_append_right _ (List.mem_append_left _ (List.mem_of_getElem? (i := 37) rfl)))) rfl
theorem mn_G_15 : Cond.constant R_G 15 (1103515245) ∈ zT := zT_mem (List.mem_append_right _ (List.mem_append_right _ (List.mem_append_left _ (List.mem_of_getElem? (i := 38) rfl)))) rfl
theorem mk_F_48 : Cond.methodLink R_F 48 y_T_set ∈ zT := zT_mem (List.mem_append_right _ (List.mem_append_right _ (List.mem_append_left _ (List.mem_of_getElem? (i := 39) rfl)))) rfl
theorem mo_T_set : Cond.instanceMethod y_T_set ∈ zT := zT_mem (List.mem_append_right _ (List.mem_append_right _ (List.mem_append_left _ (List.mem_of_getElem? (i := 40) rfl)))) rfl
theorem me_T_T_set_T : Cond.selects R_T y_T_set y_T_set ∈ zT := zT_mem (List.mem_append_right _ (List.mem_append_right _ (List.mem_append_left _ (List.mem_of_getElem? (i := 41) rfl)))) rfl
theorem mc_T_set : Cond.code y_T_set c_T_set 4 none ∈ zT := zT_mem (List.mem_append_right _ (List.mem_append_right _ (List.mem_append_left _ (List.mem_of_getElem? (i := 42) rfl)))) rfl
theorem mo_O_commitReal : Cond.instanceMethod y_O_commitReal ∈ zT := zT_mem (List.mem_append_right _ (List.mem_append_right _ (List.mem_append_left _ (List.mem_of_getElem? (i := 43) rfl)))) rfl
theorem mc_O_commitReal : Cond.code y_O_commitReal c_O_commitReal 3 none ∈ zT := zT_mem (List.mem_append_right _ (List.mem_append_right _ (List.mem_append_left _ (List.mem_of_getElem? (i := 44) rfl)))) rfl
theorem mk_O_28 : Cond.methodLink R_O 28 y_G_draw ∈ zT := zT_mem (List.mem_append_right _ (List.mem_append_right _ (List.mem_append_left _ (List.mem_of_getElem? (i := 45) rfl)))) rfl
theorem mk_O_38 : Cond.methodLink R_O 38 y_S_commitReal ∈ zT := zT_mem (List.mem_append_right _ (List.mem_append_right _ (List.mem_append_left _ (List.mem_of_getElem? (i := 46) rfl)))) rfl
theorem mk_O_42 : Cond.methodLink R_O 42 y_S_commitSimulated ∈ zT := zT_mem (List.mem_append_right _ (List.mem_append_right _ (List.mem_append_left _ (List.mem_of_getElem? (i := 47) rfl)))) rfl
theorem md_S_commitSimulated : Cond.declares y_S_commitSimulated ∈ lw_tbl := List.mem_append_right _ (List.mem_append_right _ (List.mem_append_left _ (List.mem_of_getElem? (i := 48) rfl)))
theorem mm_S_S_commitSimulated : Cond.sameMethod R_S R_S "commitSimulated" "(ILSigmaDesk$Transcript;LSigmaDesk$Drawing;)V" ∈ zT := zT_mem (List.mem_append_right _ (List.mem_append_right _ (List.mem_append_left _ (List.mem_of_getElem? (i := 49) rfl)))) rfl
theorem me_A_S_commitSimulated_A : Cond.selects R_A y_S_commitSimulated y_A_commitSimulated ∈ zT := zT_mem (List.mem_append_right _ (List.mem_append_right _ (List.mem_append_left _ (List.mem_of_getElem? (i := 50) rfl)))) rfl
theorem mo_A_commitSimulated : Cond.instanceMethod y_A_commitSimulated ∈ zT := zT_mem (List.mem_append_right _ (List.mem_append_right _ (List.mem_append_left _ (List.mem_of_getElem? (i := 51) rfl)))) rfl
theorem mc_A_commitSimulated : Cond.code y_A_commitSimulated c_A_commitSimulated 4 none ∈ zT := zT_mem (List.mem_append_right _ (List.mem_append_right _ (List.mem_append_left _ (List.mem_of_getElem? (i := 52) rfl)))) rfl
theorem mk_A_28 : Cond.methodLink R_A 28 y_S_commitSimulated ∈ zT := zT_mem (List.mem_append_right _ (List.mem_append_right _ (List.mem_append_left _ (List.mem_of_getElem? (i := 53) rfl)))) rfl
theorem mo_F_commitSimulated : Cond.instanceMethod y_F_commitSimulated ∈ zT := zT_mem (List.mem_append_right _ (List.mem_append_right _ (List.mem_append_left _ (List.mem_of_getElem? (i := 54) rfl)))) rfl
theorem mc_F_commitSimulated : Cond.code y_F_commitSimulated c_F_commitSimulated 7 none ∈ zT := zT_mem (List.mem_append_right _ (List.mem_append_right _ (List.mem_append_left _ (List.mem_of_getElem? (i := 55) rfl)))) rfl
theorem mo_O_commitSimulated : Cond.instanceMethod y_O_commitSimulated ∈ zT := zT_mem (List.mem_append_right _ (List.mem_append_right _ (List.mem_append_left _ (List.mem_of_getElem? (i := 56) rfl)))) rfl
theorem mc_O_commitSimulated : Cond.code y_O_commitSimulated c_O_commitSimulated 5 none ∈ zT := zT_mem (List.mem_append_right _ (List.mem_append_right _ (List.mem_append_left _ (List.mem_of_getElem? (i := 57) rfl)))) rfl
theorem mk_O_46 : Cond.methodLinkNest R_O 46 y_D_minus "SigmaDesk" ∈ lw_tbl := List.mem_append_right _ (List.mem_append_right _ (List.mem_append_left _ (List.mem_of_getElem? (i := 58) rfl)))
theorem ms_D_minus : Cond.static y_D_minus ∈ zT := zT_mem (List.mem_append_right _ (List.mem_append_right _ (List.mem_append_left _ (List.mem_of_getElem? (i := 59) rfl)))) rfl
theorem mc_D_minus : Cond.code y_D_minus c_D_minus 2 (some .int) ∈ zT := zT_mem (List.mem_append_right _ (List.mem_append_right _ (List.mem_append_left _ (List.mem_of_getElem? (i := 60) rfl)))) rfl
theorem me_F_S_commitSimulated_F : Cond.selects R_F y_S_commitSimulated y_F_commitSimulated ∈ zT := zT_mem (List.mem_append_right _ (List.mem_append_right _ (List.mem_append_left _ (List.mem_of_getElem? (i := 61) rfl)))) rfl
theorem me_O_S_commitSimulated_O : Cond.selects R_O y_S_commitSimulated y_O_commitSimulated ∈ zT := zT_mem (List.mem_append_right _ (List.mem_append_right _ (List.mem_append_left _ (List.mem_of_getElem? (i := 62) rfl)))) rfl
theorem me_F_S_commitReal_F : Cond.selects R_F y_S_commitReal y_F_commitReal ∈ zT := zT_mem (List.mem_append_right _ (List.mem_append_right _ (List.mem_append_left _ (List.mem_of_getElem? (i := 63) rfl)))) rfl
theorem me_O_S_commitReal_O : Cond.selects R_O y_S_commitReal y_O_commitReal ∈ zT := zT_mem (List.mem_append_right _ (List.mem_append_right _ (List.mem_append_left _ (List.mem_of_getElem? (i := 64) rfl)))) rfl
theorem mk_L_60 : Cond.methodLink R_L 60 y_D_respond ∈ zT := zT_mem (List.mem_append_right _ (List.mem_append_right _ (List.mem_append_left _ (List.mem_of_getElem? (i := 65) rfl)))) rfl
theorem mo_D_respond : Cond.instanceMethod y_D_respond ∈ zT := zT_mem (List.mem_append_right _ (List.mem_append_right _ (List.mem_append_left _ (List.mem_of_getElem? (i := 66) rfl)))) rfl
theorem me_D_D_respond_D : Cond.selects R_D y_D_respond y_D_respond ∈ zT := zT_mem (List.mem_append_right _ (List.mem_append_right _ (List.mem_append_left _ (List.mem_of_getElem? (i := 67) rfl)))) rfl
theorem mc_D_respond : Cond.code y_D_respond c_D_respond 2 (some .int) ∈ zT := zT_mem (List.mem_append_right _ (List.mem_append_right _ (List.mem_append_left _ (List.mem_of_getElem? (i := 68) rfl)))) rfl
theorem mk_D_127 : Cond.methodLink R_D 127 y_S_respondTo ∈ zT := zT_mem (List.mem_append_right _ (List.mem_append_right _ (List.mem_append_left _ (List.mem_of_getElem? (i := 69) rfl)))) rfl
theorem md_S_respondTo : Cond.declares y_S_respondTo ∈ lw_tbl := List.mem_append_right _ (List.mem_append_right _ (List.mem_append_left _ (List.mem_of_getElem? (i := 70) rfl)))
theorem mm_S_S_respondTo : Cond.sameMethod R_S R_S "respondTo" "(ILSigmaDesk$Transcript;)V" ∈ zT := zT_mem (List.mem_append_right _ (List.mem_append_right _ (List.mem_append_left _ (List.mem_of_getElem? (i := 71) rfl)))) rfl
theorem me_A_S_respondTo_A : Cond.selects R_A y_S_respondTo y_A_respondTo ∈ zT := zT_mem (List.mem_append_right _ (List.mem_append_right _ (List.mem_append_left _ (List.mem_of_getElem? (i := 72) rfl)))) rfl
theorem mo_A_respondTo : Cond.instanceMethod y_A_respondTo ∈ zT := zT_mem (List.mem_append_right _ (List.mem_append_right _ (List.mem_append_left _ (List.mem_of_getElem? (i := 73) rfl)))) rfl
theorem mc_A_respondTo : Cond.code y_A_respondTo c_A_respondTo 3 none ∈ zT := zT_mem (List.mem_append_right _ (List.mem_append_right _ (List.mem_append_left _ (List.mem_of_getElem? (i := 74) rfl)))) rfl
theorem mk_A_32 : Cond.methodLink R_A 32 y_S_respondTo ∈ zT := zT_mem (List.mem_append_right _ (List.mem_append_right _ (List.mem_append_left _ (List.mem_of_getElem? (i := 75) rfl)))) rfl
theorem mo_F_respondTo : Cond.instanceMethod y_F_respondTo ∈ zT := zT_mem (List.mem_append_right _ (List.mem_append_right _ (List.mem_append_left _ (List.mem_of_getElem? (i := 76) rfl)))) rfl
theorem mc_F_respondTo : Cond.code y_F_respondTo c_F_respondTo 3 none ∈ zT := zT_mem (List.mem_append_right _ (List.mem_append_right _ (List.mem_append_left _ (List.mem_of_getElem? (i := 77) rfl)))) rfl
theorem mo_O_respondTo : Cond.instanceMethod y_O_respondTo ∈ zT := zT_mem (List.mem_append_right _ (List.mem_append_right _ (List.mem_append_left _ (List.mem_of_getElem? (i := 78) rfl)))) rfl
theorem mc_O_respondTo : Cond.code y_O_respondTo c_O_respondTo 4 none ∈ zT := zT_mem (List.mem_append_right _ (List.mem_append_right _ (List.mem_append_left _ (List.mem_of_getElem? (i := 79) rfl)))) rfl
theorem mk_O_50 : Cond.methodLink R_O 50 y_S_respondTo ∈ zT := zT_mem (List.mem_append_right _ (List.mem_append_right _ (List.mem_append_left _ (List.mem_of_getElem? (i := 80) rfl)))) rfl
theorem me_F_S_respondTo_F : Cond.selects R_F y_S_respondTo y_F_respondTo ∈ zT := zT_mem (List.mem_append_right _ (List.mem_append_right _ (List.mem_append_left _ (List.mem_of_getElem? (i := 81) rfl)))) rfl
theorem me_O_S_respondTo_O : Cond.selects R_O y_S_respondTo y_O_respondTo ∈ zT := zT_mem (List.mem_append_right _ (List.mem_append_right _ (List.mem_append_left _ (List.mem_of_getElem? (i := 82) rfl)))) rfl
theorem mk_L_64 : Cond.methodLink R_L 64 y_D_simulate ∈ zT := zT_mem (List.mem_append_right _ (List.mem_append_right _ (List.mem_append_left _ (List.mem_of_getElem? (i := 83) rfl)))) rfl
theorem mo_D_simulate : Cond.instanceMethod y_D_simulate ∈ zT := zT_mem (List.mem_append_right _ (List.mem_append_right _ (List.mem_append_left _ (List.mem_of_getElem? (i := 84) rfl)))) rfl
theorem me_D_D_simulate_D : Cond.selects R_D y_D_simulate y_D_simulate ∈ zT := zT_mem (List.mem_append_right _ (List.mem_append_right _ (List.mem_append_left _ (List.mem_of_getElem? (i := 85) rfl)))) rfl
theorem mc_D_simulate : Cond.code y_D_simulate c_D_simulate 3 (some .int) ∈ zT := zT_mem (List.mem_append_right _ (List.mem_append_right _ (List.mem_append_left _ (List.mem_of_getElem? (i := 86) rfl)))) rfl
theorem mk_D_131 : Cond.methodLink R_D 131 y_S_commitSimulated ∈ zT := zT_mem (List.mem_append_right _ (List.mem_append_right _ (List.mem_append_left _ (List.mem_of_getElem? (i := 87) rfl)))) rfl
theorem mk_L_68 : Cond.methodLink R_L 68 y_D_prove ∈ zT := zT_mem (List.mem_append_right _ (List.mem_append_right _ (List.mem_append_left _ (List.mem_of_getElem? (i := 88) rfl)))) rfl
theorem mo_D_prove : Cond.instanceMethod y_D_prove ∈ zT := zT_mem (List.mem_append_right _ (List.mem_append_right _ (List.mem_append_left _ (List.mem_of_getElem? (i := 89) rfl)))) rfl
theorem me_D_D_prove_D : Cond.selects R_D y_D_prove y_D_prove ∈ zT := zT_mem (List.mem_append_right _ (List.mem_append_right _ (List.mem_append_left _ (List.mem_of_getElem? (i := 90) rfl)))) rfl
theorem mc_D_prove : Cond.code y_D_prove c_D_prove 4 (some .int) ∈ zT := zT_mem (List.mem_append_right _ (List.mem_append_right _ (List.mem_append_left _ (List.mem_of_getElem? (i := 91) rfl)))) rfl
theorem mk_D_135 : Cond.methodLink R_D 135 y_D_commit ∈ zT := zT_mem (List.mem_append_right _ (List.mem_append_right _ (List.mem_append_left _ (List.mem_of_getElem? (i := 92) rfl)))) rfl
theorem mk_D_139 : Cond.methodLink R_D 139 y_D_hash ∈ zT := zT_mem (List.mem_append_right _ (List.mem_append_right _ (List.mem_append_left _ (List.mem_of_getElem? (i := 93) rfl)))) rfl
theorem mo_D_hash : Cond.instanceMethod y_D_hash ∈ zT := zT_mem (List.mem_append_right _ (List.mem_append_right _ (List.mem_append_left _ (List.mem_of_getElem? (i := 94) rfl)))) rfl
theorem me_D_D_hash_D : Cond.selects R_D y_D_hash y_D_hash ∈ zT := zT_mem (List.mem_append_right _ (List.mem_append_right _ (List.mem_append_left _ (List.mem_of_getElem? (i := 95) rfl)))) rfl
theorem mc_D_hash : Cond.code y_D_hash c_D_hash 3 (some .int) ∈ zT := zT_mem (List.mem_append_right _ (List.mem_append_right _ (List.mem_append_left _ (List.mem_of_getElem? (i := 96) rfl)))) rfl
theorem mk_D_146 : Cond.methodLink R_D 146 y_F_mixInto ∈ zT := zT_mem (List.mem_append_right _ (List.mem_append_right _ (List.mem_append_left _ (List.mem_of_getElem? (i := 97) rfl)))) rfl
theorem mo_F_mixInto : Cond.instanceMethod y_F_mixInto ∈ zT := zT_mem (List.mem_append_right _ (List.mem_append_right _ (List.mem_append_left _ (List.mem_of_getElem? (i := 98) rfl)))) rfl
theorem me_F_F_mixInto_F : Cond.selects R_F y_F_mixInto y_F_mixInto ∈ zT := zT_mem (List.mem_append_right _ (List.mem_append_right _ (List.mem_append_left _ (List.mem_of_getElem? (i := 99) rfl)))) rfl
theorem mc_F_mixInto : Cond.code y_F_mixInto c_F_mixInto 5 (some .int) ∈ zT := zT_mem (List.mem_append_right _ (List.mem_append_right _ (List.mem_append_left _ (List.mem_of_getElem? (i := 100) rfl)))) rfl
theorem mk_F_33 : Cond.methodLink R_F 33 y_T_get ∈ zT := zT_mem (List.mem_append_right _ (List.mem_append_right _ (List.mem_append_left _ (List.mem_of_getElem? (i := 101) rfl)))) rfl
theorem mo_T_get : Cond.instanceMethod y_T_get ∈ zT := zT_mem (List.mem_append_right _ (List.mem_append_right _ (List.mem_append_left _ (List.mem_of_getElem? (i := 102) rfl)))) rfl
theorem me_T_T_get_T : Cond.selects R_T y_T_get y_T_get ∈ zT := zT_mem (List.mem_append_right _ (List.mem_append_right _ (List.mem_append_left _ (List.mem_of_getElem? (i := 103) rfl)))) rfl
theorem mc_T_get : Cond.code y_T_get c_T_get 3 (some .int) ∈ zT := zT_mem (List.mem_append_right _ (List.mem_append_right _ (List.mem_append_left _ (List.mem_of_getElem? (i := 104) rfl)))) rfl
theorem mn_D_152 : Cond.constant R_D 152 (2147483647) ∈ zT := zT_mem (List.mem_append_right _ (List.mem_append_right _ (List.mem_append_left _ (List.mem_of_getElem? (i := 105) rfl)))) rfl
theorem mk_D_143 : Cond.methodLink R_D 143 y_D_respond ∈ zT := zT_mem (List.mem_append_right _ (List.mem_append_right _ (List.mem_append_left _ (List.mem_of_getElem? (i := 106) rfl)))) rfl
theorem mk_L_72 : Cond.methodLink R_L 72 y_D_hash ∈ zT := zT_mem (List.mem_append_right _ (List.mem_append_right _ (List.mem_append_left _ (List.mem_of_getElem? (i := 107) rfl)))) rfl
theorem mk_L_76 : Cond.methodLink R_L 76 y_D_verify ∈ zT := zT_mem (List.mem_append_right _ (List.mem_append_right _ (List.mem_append_left _ (List.mem_of_getElem? (i := 108) rfl)))) rfl
theorem mo_D_verify : Cond.instanceMethod y_D_verify ∈ zT := zT_mem (List.mem_append_right _ (List.mem_append_right _ (List.mem_append_left _ (List.mem_of_getElem? (i := 109) rfl)))) rfl
theorem me_D_D_verify_D : Cond.selects R_D y_D_verify y_D_verify ∈ zT := zT_mem (List.mem_append_right _ (List.mem_append_right _ (List.mem_append_left _ (List.mem_of_getElem? (i := 110) rfl)))) rfl
theorem mc_D_verify : Cond.code y_D_verify c_D_verify 1 (some .boolean) ∈ zT := zT_mem (List.mem_append_right _ (List.mem_append_right _ (List.mem_append_left _ (List.mem_of_getElem? (i := 111) rfl)))) rfl
theorem mk_D_153 : Cond.methodLink R_D 153 y_D_isAccepted ∈ zT := zT_mem (List.mem_append_right _ (List.mem_append_right _ (List.mem_append_left _ (List.mem_of_getElem? (i := 112) rfl)))) rfl
theorem mo_D_isAccepted : Cond.instanceMethod y_D_isAccepted ∈ zT := zT_mem (List.mem_append_right _ (List.mem_append_right _ (List.mem_append_left _ (List.mem_of_getElem? (i := 114) rfl)))) rfl
theorem mc_D_isAccepted : Cond.code y_D_isAccepted c_D_isAccepted 3 (some .boolean) ∈ zT := zT_mem (List.mem_append_right _ (List.mem_append_right _ (List.mem_append_left _ (List.mem_of_getElem? (i := 115) rfl)))) rfl
theorem mk_D_185 : Cond.methodLink R_D 185 y_F_holdsIn ∈ zT := zT_mem (List.mem_append_right _ (List.mem_append_right _ (List.mem_append_left _ (List.mem_of_getElem? (i := 116) rfl)))) rfl
theorem mo_F_holdsIn : Cond.instanceMethod y_F_holdsIn ∈ zT := zT_mem (List.mem_append_right _ (List.mem_append_right _ (List.mem_append_left _ (List.mem_of_getElem? (i := 117) rfl)))) rfl
theorem me_F_F_holdsIn_F : Cond.selects R_F y_F_holdsIn y_F_holdsIn ∈ zT := zT_mem (List.mem_append_right _ (List.mem_append_right _ (List.mem_append_left _ (List.mem_of_getElem? (i := 118) rfl)))) rfl
theorem mc_F_holdsIn : Cond.code y_F_holdsIn c_F_holdsIn 6 (some .boolean) ∈ zT := zT_mem (List.mem_append_right _ (List.mem_append_right _ (List.mem_append_left _ (List.mem_of_getElem? (i := 119) rfl)))) rfl
theorem mk_D_157 : Cond.methodLink R_D 157 y_S_challengeIn ∈ zT := zT_mem (List.mem_append_right _ (List.mem_append_right _ (List.mem_append_left _ (List.mem_of_getElem? (i := 120) rfl)))) rfl
theorem md_S_challengeIn : Cond.declares y_S_challengeIn ∈ lw_tbl := List.mem_append_right _ (List.mem_append_right _ (List.mem_append_left _ (List.mem_of_getElem? (i := 121) rfl)))
theorem mm_S_S_challengeIn : Cond.sameMethod R_S R_S "challengeIn" "(LSigmaDesk$Transcript;)I" ∈ zT := zT_mem (List.mem_append_right _ (List.mem_append_right _ (List.mem_append_left _ (List.mem_of_getElem? (i := 122) rfl)))) rfl
theorem me_A_S_challengeIn_A : Cond.selects R_A y_S_challengeIn y_A_challengeIn ∈ zT := zT_mem (List.mem_append_right _ (List.mem_append_right _ (List.mem_append_left _ (List.mem_of_getElem? (i := 123) rfl)))) rfl
theorem mo_A_challengeIn : Cond.instanceMethod y_A_challengeIn ∈ zT := zT_mem (List.mem_append_right _ (List.mem_append_right _ (List.mem_append_left _ (List.mem_of_getElem? (i := 124) rfl)))) rfl
theorem mc_A_challengeIn : Cond.code y_A_challengeIn c_A_challengeIn 3 (some .int) ∈ zT := zT_mem (List.mem_append_right _ (List.mem_append_right _ (List.mem_append_left _ (List.mem_of_getElem? (i := 125) rfl)))) rfl
theorem mk_A_36 : Cond.methodLink R_A 36 y_S_challengeIn ∈ zT := zT_mem (List.mem_append_right _ (List.mem_append_right _ (List.mem_append_left _ (List.mem_of_getElem? (i := 126) rfl)))) rfl
theorem mo_F_challengeIn : Cond.instanceMethod y_F_challengeIn ∈ zT := zT_mem (List.mem_append_right _ (List.mem_append_right _ (List.mem_append_left _ (List.mem_of_getElem? (i := 127) rfl)))) rfl
theorem mc_F_challengeIn : Cond.code y_F_challengeIn c_F_challengeIn 2 (some .int) ∈ zT := zT_mem (List.mem_append_right _ (List.mem_append_right _ (List.mem_append_left _ (List.mem_of_getElem? (i := 128) rfl)))) rfl
theorem mo_O_challengeIn : Cond.instanceMethod y_O_challengeIn ∈ zT := zT_mem (List.mem_append_right _ (List.mem_append_right _ (List.mem_append_left _ (List.mem_of_getElem? (i := 129) rfl)))) rfl
theorem mc_O_challengeIn : Cond.code y_O_challengeIn c_O_challengeIn 4 (some .int) ∈ zT := zT_mem (List.mem_append_right _ (List.mem_append_right _ (List.mem_append_left _ (List.mem_of_getElem? (i := 130) rfl)))) rfl
theorem mk_O_54 : Cond.methodLink R_O 54 y_S_challengeIn ∈ zT := zT_mem (List.mem_append_right _ (List.mem_append_right _ (List.mem_append_left _ (List.mem_of_getElem? (i := 131) rfl)))) rfl
theorem me_F_S_challengeIn_F : Cond.selects R_F y_S_challengeIn y_F_challengeIn ∈ zT := zT_mem (List.mem_append_right _ (List.mem_append_right _ (List.mem_append_left _ (List.mem_of_getElem? (i := 132) rfl)))) rfl
theorem me_O_S_challengeIn_O : Cond.selects R_O y_S_challengeIn y_O_challengeIn ∈ zT := zT_mem (List.mem_append_right _ (List.mem_append_right _ (List.mem_append_left _ (List.mem_of_getElem? (i := 133) rfl)))) rfl
theorem mk_L_80 : Cond.methodLink R_L 80 y_D_challenge ∈ zT := zT_mem (List.mem_append_right _ (List.mem_append_right _ (List.mem_append_left _ (List.mem_of_getElem? (i := 134) rfl)))) rfl
theorem mo_D_challenge : Cond.instanceMethod y_D_challenge ∈ zT := zT_mem (List.mem_append_right _ (List.mem_append_right _ (List.mem_append_left _ (List.mem_of_getElem? (i := 135) rfl)))) rfl
theorem me_D_D_challenge_D : Cond.selects R_D y_D_challenge y_D_challenge ∈ zT := zT_mem (List.mem_append_right _ (List.mem_append_right _ (List.mem_append_left _ (List.mem_of_getElem? (i := 136) rfl)))) rfl
theorem mc_D_challenge : Cond.code y_D_challenge c_D_challenge 2 (some .int) ∈ zT := zT_mem (List.mem_append_right _ (List.mem_append_right _ (List.mem_append_left _ (List.mem_of_getElem? (i := 137) rfl)))) rfl
theorem mk_L_84 : Cond.methodLink R_L 84 y_D_part ∈ zT := zT_mem (List.mem_append_right _ (List.mem_append_right _ (List.mem_append_left _ (List.mem_of_getElem? (i := 138) rfl)))) rfl
theorem mo_D_part : Cond.instanceMethod y_D_part ∈ zT := zT_mem (List.mem_append_right _ (List.mem_append_right _ (List.mem_append_left _ (List.mem_of_getElem? (i := 139) rfl)))) rfl
theorem me_D_D_part_D : Cond.selects R_D y_D_part y_D_part ∈ zT := zT_mem (List.mem_append_right _ (List.mem_append_right _ (List.mem_append_left _ (List.mem_of_getElem? (i := 140) rfl)))) rfl
theorem mc_D_part : Cond.code y_D_part c_D_part 3 (some .int) ∈ zT := zT_mem (List.mem_append_right _ (List.mem_append_right _ (List.mem_append_left _ (List.mem_of_getElem? (i := 141) rfl)))) rfl
theorem mk_D_161 : Cond.methodLink R_D 161 y_D_isPart ∈ zT := zT_mem (List.mem_append_right _ (List.mem_append_right _ (List.mem_append_left _ (List.mem_of_getElem? (i := 142) rfl)))) rfl
theorem mo_D_isPart : Cond.instanceMethod y_D_isPart ∈ zT := zT_mem (List.mem_append_right _ (List.mem_append_right _ (List.mem_append_left _ (List.mem_of_getElem? (i := 144) rfl)))) rfl
theorem mc_D_isPart : Cond.code y_D_isPart c_D_isPart 3 (some .boolean) ∈ zT := zT_mem (List.mem_append_right _ (List.mem_append_right _ (List.mem_append_left _ (List.mem_of_getElem? (i := 145) rfl)))) rfl
theorem mk_D_182 : Cond.methodLink R_D 182 y_F_pairs ∈ zT := zT_mem (List.mem_append_right _ (List.mem_append_right _ (List.mem_append_left _ (List.mem_of_getElem? (i := 146) rfl)))) rfl
theorem mo_F_pairs : Cond.instanceMethod y_F_pairs ∈ zT := zT_mem (List.mem_append_right _ (List.mem_append_right _ (List.mem_append_left _ (List.mem_of_getElem? (i := 147) rfl)))) rfl
theorem me_F_F_pairs_F : Cond.selects R_F y_F_pairs y_F_pairs ∈ zT := zT_mem (List.mem_append_right _ (List.mem_append_right _ (List.mem_append_left _ (List.mem_of_getElem? (i := 148) rfl)))) rfl
theorem mc_F_pairs : Cond.code y_F_pairs c_F_pairs 1 (some .int) ∈ zT := zT_mem (List.mem_append_right _ (List.mem_append_right _ (List.mem_append_left _ (List.mem_of_getElem? (i := 149) rfl)))) rfl
theorem mk_D_164 : Cond.methodLink R_D 164 y_T_get ∈ zT := zT_mem (List.mem_append_right _ (List.mem_append_right _ (List.mem_append_left _ (List.mem_of_getElem? (i := 150) rfl)))) rfl
theorem mk_L_88 : Cond.methodLink R_L 88 y_D_change ∈ zT := zT_mem (List.mem_append_right _ (List.mem_append_right _ (List.mem_append_left _ (List.mem_of_getElem? (i := 151) rfl)))) rfl
theorem mo_D_change : Cond.instanceMethod y_D_change ∈ zT := zT_mem (List.mem_append_right _ (List.mem_append_right _ (List.mem_append_left _ (List.mem_of_getElem? (i := 152) rfl)))) rfl
theorem me_D_D_change_D : Cond.selects R_D y_D_change y_D_change ∈ zT := zT_mem (List.mem_append_right _ (List.mem_append_right _ (List.mem_append_left _ (List.mem_of_getElem? (i := 153) rfl)))) rfl
theorem mc_D_change : Cond.code y_D_change c_D_change 5 (some .boolean) ∈ zT := zT_mem (List.mem_append_right _ (List.mem_append_right _ (List.mem_append_left _ (List.mem_of_getElem? (i := 154) rfl)))) rfl
theorem mk_D_168 : Cond.methodLink R_D 168 y_T_set ∈ zT := zT_mem (List.mem_append_right _ (List.mem_append_right _ (List.mem_append_left _ (List.mem_of_getElem? (i := 155) rfl)))) rfl
theorem mk_L_93 : Cond.methodLink R_L 93 y_D_save ∈ zT := zT_mem (List.mem_append_right _ (List.mem_append_right _ (List.mem_append_left _ (List.mem_of_getElem? (i := 156) rfl)))) rfl
theorem mo_D_save : Cond.instanceMethod y_D_save ∈ zT := zT_mem (List.mem_append_right _ (List.mem_append_right _ (List.mem_append_left _ (List.mem_of_getElem? (i := 157) rfl)))) rfl
theorem me_D_D_save_D : Cond.selects R_D y_D_save y_D_save ∈ zT := zT_mem (List.mem_append_right _ (List.mem_append_right _ (List.mem_append_left _ (List.mem_of_getElem? (i := 158) rfl)))) rfl
theorem mc_D_save : Cond.code y_D_save c_D_save 1 (some .boolean) ∈ zT := zT_mem (List.mem_append_right _ (List.mem_append_right _ (List.mem_append_left _ (List.mem_of_getElem? (i := 159) rfl)))) rfl
theorem mk_D_172 : Cond.methodLink R_D 172 y_T_copy ∈ zT := zT_mem (List.mem_append_right _ (List.mem_append_right _ (List.mem_append_left _ (List.mem_of_getElem? (i := 160) rfl)))) rfl
theorem mo_T_copy : Cond.instanceMethod y_T_copy ∈ zT := zT_mem (List.mem_append_right _ (List.mem_append_right _ (List.mem_append_left _ (List.mem_of_getElem? (i := 161) rfl)))) rfl
theorem me_T_T_copy_T : Cond.selects R_T y_T_copy y_T_copy ∈ zT := zT_mem (List.mem_append_right _ (List.mem_append_right _ (List.mem_append_left _ (List.mem_of_getElem? (i := 162) rfl)))) rfl
theorem mc_T_copy : Cond.code y_T_copy c_T_copy 2 none ∈ zT := zT_mem (List.mem_append_right _ (List.mem_append_right _ (List.mem_append_left _ (List.mem_of_getElem? (i := 163) rfl)))) rfl
theorem mk_T_21 : Cond.methodLink R_T 21 y_Y_arraycopy ∈ zT := zT_mem (List.mem_append_right _ (List.mem_append_right _ (List.mem_append_left _ (List.mem_of_getElem? (i := 164) rfl)))) rfl
theorem ms_Y_arraycopy : Cond.static y_Y_arraycopy ∈ zT := zT_mem (List.mem_append_right _ (List.mem_append_right _ (List.mem_append_left _ (List.mem_of_getElem? (i := 165) rfl)))) rfl
theorem mv_Y_arraycopy : Cond.native y_Y_arraycopy ∈ zT := zT_mem (List.mem_append_right _ (List.mem_append_right _ (List.mem_append_left _ (List.mem_of_getElem? (i := 166) rfl)))) rfl
theorem mk_L_97 : Cond.methodLink R_L 97 y_D_extract ∈ zT := zT_mem (List.mem_append_right _ (List.mem_append_right _ (List.mem_append_left _ (List.mem_of_getElem? (i := 167) rfl)))) rfl
theorem mo_D_extract : Cond.instanceMethod y_D_extract ∈ zT := zT_mem (List.mem_append_right _ (List.mem_append_right _ (List.mem_append_left _ (List.mem_of_getElem? (i := 168) rfl)))) rfl
theorem me_D_D_extract_D : Cond.selects R_D y_D_extract y_D_extract ∈ zT := zT_mem (List.mem_append_right _ (List.mem_append_right _ (List.mem_append_left _ (List.mem_of_getElem? (i := 169) rfl)))) rfl
theorem mc_D_extract : Cond.code y_D_extract c_D_extract 3 (some .int) ∈ zT := zT_mem (List.mem_append_right _ (List.mem_append_right _ (List.mem_append_left _ (List.mem_of_getElem? (i := 170) rfl)))) rfl
theorem mk_D_176 : Cond.methodLink R_D 176 y_D_sameCommitments ∈ zT := zT_mem (List.mem_append_right _ (List.mem_append_right _ (List.mem_append_left _ (List.mem_of_getElem? (i := 171) rfl)))) rfl
theorem mo_D_sameCommitments : Cond.instanceMethod y_D_sameCommitments ∈ zT := zT_mem (List.mem_append_right _ (List.mem_append_right _ (List.mem_append_left _ (List.mem_of_getElem? (i := 173) rfl)))) rfl
theorem mc_D_sameCommitments : Cond.code y_D_sameCommitments c_D_sameCommitments 3 (some .boolean) ∈ zT := zT_mem (List.mem_append_right _ (List.mem_append_right _ (List.mem_append_left _ (List.mem_of_getElem? (i := 174) rfl)))) rfl
theorem mk_D_179 : Cond.methodLink R_D 179 y_D_givenAway ∈ zT := zT_mem (List.mem_append_right _ (List.mem_append_right _ (List.mem_append_left _ (List.mem_of_getElem? (i := 175) rfl)))) rfl
theorem mo_D_givenAway : Cond.instanceMethod y_D_givenAway ∈ zT := zT_mem (List.mem_append_right _ (List.mem_append_right _ (List.mem_append_left _ (List.mem_of_getElem? (i := 177) rfl)))) rfl
theorem mc_D_givenAway : Cond.code y_D_givenAway c_D_givenAway 4 (some .int) ∈ zT := zT_mem (List.mem_append_right _ (List.mem_append_right _ (List.mem_append_left _ (List.mem_of_getElem? (i := 178) rfl)))) rfl
theorem mk_D_188 : Cond.methodLink R_D 188 y_D_minus ∈ zT := zT_mem (List.mem_append_right _ (List.mem_append_right _ (List.mem_append_left _ (List.mem_of_getElem? (i := 179) rfl)))) rfl
theorem ml_L_10 : Cond.classLink R_L 10 R_M ∈ zT := zT_mem (List.mem_append_right _ (List.mem_append_right _ (List.mem_append_left _ (List.mem_of_getElem? (i := 180) rfl)))) rfl
theorem mt_M : Cond.instantiable R_M 34 ∈ zT := zT_mem (List.mem_append_right _ (List.mem_append_right _ (List.mem_append_left _ (List.mem_of_getElem? (i := 181) rfl)))) rfl
theorem mk_L_12 : Cond.methodLink R_L 12 y_M_init ∈ zT := zT_mem (List.mem_append_right _ (List.mem_append_right _ (List.mem_append_left _ (List.mem_of_getElem? (i := 182) rfl)))) rfl
theorem mo_M_init : Cond.instanceMethod y_M_init ∈ zT := zT_mem (List.mem_append_right _ (List.mem_append_right _ (List.mem_append_left _ (List.mem_of_getElem? (i := 183) rfl)))) rfl
theorem mc_M_init : Cond.code y_M_init c_M_init 1 none ∈ zT := zT_mem (List.mem_append_right _ (List.mem_append_right _ (List.mem_append_left _ (List.mem_of_getElem? (i := 184) rfl)))) rfl
theorem mk_M_1 : Cond.methodLink R_M 1 y_B_init ∈ zT := zT_mem (List.mem_append_right _ (List.mem_append_right _ (List.mem_append_left _ (List.mem_of_getElem? (i := 185) rfl)))) rfl
theorem mf_M_7 : Cond.fieldLink R_M 7 "SigmaDeskModel" "kind" "[I" ∈ zT := zT_mem (List.mem_append_right _ (List.mem_append_right _ (List.mem_append_left _ (List.mem_of_getElem? (i := 186) rfl)))) rfl
theorem mf_M_13 : Cond.fieldLink R_M 13 "SigmaDeskModel" "base" "[I" ∈ zT := zT_mem (List.mem_append_right _ (List.mem_append_right _ (List.mem_append_left _ (List.mem_of_getElem? (i := 187) rfl)))) rfl
theorem mf_M_16 : Cond.fieldLink R_M 16 "SigmaDeskModel" "image" "[I" ∈ zT := zT_mem (List.mem_append_right _ (List.mem_append_right _ (List.mem_append_left _ (List.mem_of_getElem? (i := 188) rfl)))) rfl
theorem mf_M_19 : Cond.fieldLink R_M 19 "SigmaDeskModel" "base2" "[I" ∈ zT := zT_mem (List.mem_append_right _ (List.mem_append_right _ (List.mem_append_left _ (List.mem_of_getElem? (i := 189) rfl)))) rfl
theorem mf_M_22 : Cond.fieldLink R_M 22 "SigmaDeskModel" "image2" "[I" ∈ zT := zT_mem (List.mem_append_right _ (List.mem_append_right _ (List.mem_append_left _ (List.mem_of_getElem? (i := 190) rfl)))) rfl
theorem mf_M_25 : Cond.fieldLink R_M 25 "SigmaDeskModel" "start" "[I" ∈ zT := zT_mem (List.mem_append_right _ (List.mem_append_right _ (List.mem_append_left _ (List.mem_of_getElem? (i := 191) rfl)))) rfl
theorem mf_M_112 : Cond.fieldLink R_M 112 "SigmaDeskModel" "top" "I" ∈ zT := zT_mem (List.mem_append_right _ (List.mem_append_right _ (List.mem_append_left _ (List.mem_of_getElem? (i := 192) rfl)))) rfl
theorem mf_M_122 : Cond.fieldLink R_M 122 "SigmaDeskModel" "size" "I" ∈ zT := zT_mem (List.mem_append_right _ (List.mem_append_right _ (List.mem_append_left _ (List.mem_of_getElem? (i := 193) rfl)))) rfl
theorem mf_M_125 : Cond.fieldLink R_M 125 "SigmaDeskModel" "leaves" "I" ∈ zT := zT_mem (List.mem_append_right _ (List.mem_append_right _ (List.mem_append_left _ (List.mem_of_getElem? (i := 194) rfl)))) rfl
theorem mf_M_28 : Cond.fieldLink R_M 28 "SigmaDeskModel" "node" "[I" ∈ zT := zT_mem (List.mem_append_right _ (List.mem_append_right _ (List.mem_append_left _ (List.mem_of_getElem? (i := 195) rfl)))) rfl
theorem mf_M_31 : Cond.fieldLink R_M 31 "SigmaDeskModel" "left" "[I" ∈ zT := zT_mem (List.mem_append_right _ (List.mem_append_right _ (List.mem_append_left _ (List.mem_of_getElem? (i := 196) rfl)))) rfl
theorem mf_M_34 : Cond.fieldLink R_M 34 "SigmaDeskModel" "right" "[I" ∈ zT := zT_mem (List.mem_append_right _ (List.mem_append_right _ (List.mem_append_left _ (List.mem_of_getElem? (i := 197) rfl)))) rfl
theorem mf_M_37 : Cond.fieldLink R_M 37 "SigmaDeskModel" "leafOf" "[I" ∈ zT := zT_mem (List.mem_append_right _ (List.mem_append_right _ (List.mem_append_left _ (List.mem_of_getElem? (i := 198) rfl)))) rfl
theorem mf_M_40 : Cond.fieldLink R_M 40 "SigmaDeskModel" "bases" "[I" ∈ zT := zT_mem (List.mem_append_right _ (List.mem_append_right _ (List.mem_append_left _ (List.mem_of_getElem? (i := 199) rfl)))) rfl
theorem mf_M_43 : Cond.fieldLink R_M 43 "SigmaDeskModel" "images" "[I" ∈ zT := zT_mem (List.mem_append_right _ (List.mem_append_right _ (List.mem_append_left _ (List.mem_of_getElem? (i := 200) rfl)))) rfl
theorem mf_M_46 : Cond.fieldLink R_M 46 "SigmaDeskModel" "witnesses" "[I" ∈ zT := zT_mem (List.mem_append_right _ (List.mem_append_right _ (List.mem_append_left _ (List.mem_of_getElem? (i := 201) rfl)))) rfl
theorem mf_M_49 : Cond.fieldLink R_M 49 "SigmaDeskModel" "commitment" "[I" ∈ zT := zT_mem (List.mem_append_right _ (List.mem_append_right _ (List.mem_append_left _ (List.mem_of_getElem? (i := 202) rfl)))) rfl
theorem mf_M_52 : Cond.fieldLink R_M 52 "SigmaDeskModel" "challenged" "[I" ∈ zT := zT_mem (List.mem_append_right _ (List.mem_append_right _ (List.mem_append_left _ (List.mem_of_getElem? (i := 203) rfl)))) rfl
theorem mf_M_55 : Cond.fieldLink R_M 55 "SigmaDeskModel" "response" "[I" ∈ zT := zT_mem (List.mem_append_right _ (List.mem_append_right _ (List.mem_append_left _ (List.mem_of_getElem? (i := 204) rfl)))) rfl
theorem mf_M_58 : Cond.fieldLink R_M 58 "SigmaDeskModel" "savedCommitment" "[I" ∈ zT := zT_mem (List.mem_append_right _ (List.mem_append_right _ (List.mem_append_left _ (List.mem_of_getElem? (i := 205) rfl)))) rfl
theorem mf_M_61 : Cond.fieldLink R_M 61 "SigmaDeskModel" "savedChallenge" "[I" ∈ zT := zT_mem (List.mem_append_right _ (List.mem_append_right _ (List.mem_append_left _ (List.mem_of_getElem? (i := 206) rfl)))) rfl
theorem mf_M_64 : Cond.fieldLink R_M 64 "SigmaDeskModel" "savedResponse" "[I" ∈ zT := zT_mem (List.mem_append_right _ (List.mem_append_right _ (List.mem_append_left _ (List.mem_of_getElem? (i := 207) rfl)))) rfl
theorem mf_M_128 : Cond.fieldLink R_M 128 "SigmaDeskModel" "saved" "Z" ∈ zT := zT_mem (List.mem_append_right _ (List.mem_append_right _ (List.mem_append_left _ (List.mem_of_getElem? (i := 208) rfl)))) rfl
theorem mf_M_132 : Cond.fieldLink R_M 132 "SigmaDeskModel" "committed" "Z" ∈ zT := zT_mem (List.mem_append_right _ (List.mem_append_right _ (List.mem_append_left _ (List.mem_of_getElem? (i := 209) rfl)))) rfl
theorem mf_M_67 : Cond.fieldLink R_M 67 "SigmaDeskModel" "nonce" "[I" ∈ zT := zT_mem (List.mem_append_right _ (List.mem_append_right _ (List.mem_append_left _ (List.mem_of_getElem? (i := 210) rfl)))) rfl
theorem mf_M_70 : Cond.fieldLink R_M 70 "SigmaDeskModel" "leftReal" "[Z" ∈ zT := zT_mem (List.mem_append_right _ (List.mem_append_right _ (List.mem_append_left _ (List.mem_of_getElem? (i := 211) rfl)))) rfl
theorem mf_M_74 : Cond.fieldLink R_M 74 "SigmaDeskModel" "drawn" "[I" ∈ zT := zT_mem (List.mem_append_right _ (List.mem_append_right _ (List.mem_append_left _ (List.mem_of_getElem? (i := 212) rfl)))) rfl
theorem mf_M_104 : Cond.fieldLink R_M 104 "SigmaDeskModel" "state" "I" ∈ zT := zT_mem (List.mem_append_right _ (List.mem_append_right _ (List.mem_append_left _ (List.mem_of_getElem? (i := 213) rfl)))) rfl
theorem mf_M_145 : Cond.fieldLink R_M 145 "SigmaDeskModel" "todo" "I" ∈ zT := zT_mem (List.mem_append_right _ (List.mem_append_right _ (List.mem_append_left _ (List.mem_of_getElem? (i := 214) rfl)))) rfl
theorem mf_M_77 : Cond.fieldLink R_M 77 "SigmaDeskModel" "queue" "[I" ∈ zT := zT_mem (List.mem_append_right _ (List.mem_append_right _ (List.mem_append_left _ (List.mem_of_getElem? (i := 215) rfl)))) rfl
theorem mf_M_80 : Cond.fieldLink R_M 80 "SigmaDeskModel" "with" "[I" ∈ zT := zT_mem (List.mem_append_right _ (List.mem_append_right _ (List.mem_append_left _ (List.mem_of_getElem? (i := 216) rfl)))) rfl
theorem mf_M_83 : Cond.fieldLink R_M 83 "SigmaDeskModel" "real" "[Z" ∈ zT := zT_mem (List.mem_append_right _ (List.mem_append_right _ (List.mem_append_left _ (List.mem_of_getElem? (i := 217) rfl)))) rfl
theorem mf_M_86 : Cond.fieldLink R_M 86 "SigmaDeskModel" "value" "[I" ∈ zT := zT_mem (List.mem_append_right _ (List.mem_append_right _ (List.mem_append_left _ (List.mem_of_getElem? (i := 218) rfl)))) rfl
theorem mf_M_89 : Cond.fieldLink R_M 89 "SigmaDeskModel" "held" "[Z" ∈ zT := zT_mem (List.mem_append_right _ (List.mem_append_right _ (List.mem_append_left _ (List.mem_of_getElem? (i := 219) rfl)))) rfl
theorem my_M_kind : Cond.laysFinal R_M R_M "kind" "[I" ∈ zT := zT_mem (List.mem_append_right _ (List.mem_append_right _ (List.mem_append_left _ (List.mem_of_getElem? (i := 220) rfl)))) rfl
theorem my_M_base : Cond.laysFinal R_M R_M "base" "[I" ∈ zT := zT_mem (List.mem_append_right _ (List.mem_append_right _ (List.mem_append_left _ (List.mem_of_getElem? (i := 222) rfl)))) rfl
theorem my_M_image : Cond.laysFinal R_M R_M "image" "[I" ∈ zT := zT_mem (List.mem_append_right _ (List.mem_append_right _ (List.mem_append_left _ (List.mem_of_getElem? (i := 224) rfl)))) rfl
theorem my_M_base2 : Cond.laysFinal R_M R_M "base2" "[I" ∈ zT := zT_mem (List.mem_append_right _ (List.mem_append_right _ (List.mem_append_left _ (List.mem_of_getElem? (i := 226) rfl)))) rfl
theorem my_M_image2 : Cond.laysFinal R_M R_M "image2" "[I" ∈ zT := zT_mem (List.mem_append_right _ (List.mem_append_right _ (List.mem_append_left _ (List.mem_of_getElem? (i := 228) rfl)))) rfl
theorem my_M_start : Cond.laysFinal R_M R_M "start" "[I" ∈ zT := zT_mem (List.mem_append_right _ (List.mem_append_right _ (List.mem_append_left _ (List.mem_of_getElem? (i := 230) rfl)))) rfl
theorem my_M_top : Cond.lays R_M R_M "top" "I" ∈ zT := zT_mem (List.mem_append_right _ (List.mem_append_right _ (List.mem_append_left _ (List.mem_of_getElem? (i := 232) rfl)))) rfl
theorem my_M_size : Cond.lays R_M R_M "size" "I" ∈ zT := zT_mem (List.mem_append_right _ (List.mem_append_right _ (List.mem_append_left _ (List.mem_of_getElem? (i := 234) rfl)))) rfl
theorem my_M_leaves : Cond.lays R_M R_M "leaves" "I" ∈ zT := zT_mem (List.mem_append_right _ (List.mem_append_right _ (List.mem_append_left _ (List.mem_of_getElem? (i := 236) rfl)))) rfl
theorem my_M_node : Cond.laysFinal R_M R_M "node" "[I" ∈ zT := zT_mem (List.mem_append_right _ (List.mem_append_right _ (List.mem_append_left _ (List.mem_of_getElem? (i := 238) rfl)))) rfl
theorem my_M_left : Cond.laysFinal R_M R_M "left" "[I" ∈ zT := zT_mem (List.mem_append_right _ (List.mem_append_right _ (List.mem_append_right _ (List.mem_of_getElem? (i := 0) rfl)))) rfl
theorem my_M_right : Cond.laysFinal R_M R_M "right" "[I" ∈ zT := zT_mem (List.mem_append_right _ (List.mem_append_right _ (List.mem_append_right _ (List.mem_of_getElem? (i := 2) rfl)))) rfl
theorem my_M_leafOf : Cond.laysFinal R_M R_M "leafOf" "[I" ∈ zT := zT_mem (List.mem_append_right _ (List.mem_append_right _ (List.mem_append_right _ (List.mem_of_getElem? (i := 4) rfl)))) rfl
theorem my_M_bases : Cond.laysFinal R_M R_M "bases" "[I" ∈ zT := zT_mem (List.mem_append_right _ (List.mem_append_right _ (List.mem_append_right _ (List.mem_of_getElem? (i := 6) rfl)))) rfl
theorem my_M_images : Cond.laysFinal R_M R_M "images" "[I" ∈ zT := zT_mem (List.mem_append_right _ (List.mem_append_right _ (List.mem_append_right _ (List.mem_of_getElem? (i := 8) rfl)))) rfl
theorem my_M_witnesses : Cond.laysFinal R_M R_M "witnesses" "[I" ∈ zT := zT_mem (List.mem_append_right _ (List.mem_append_right _ (List.mem_append_right _ (List.mem_of_getElem? (i := 10) rfl)))) rfl
theorem my_M_commitment : Cond.laysFinal R_M R_M "commitment" "[I" ∈ zT := zT_mem (List.mem_append_right _ (List.mem_append_right _ (List.mem_append_right _ (List.mem_of_getElem? (i := 12) rfl)))) rfl
theorem my_M_challenged : Cond.laysFinal R_M R_M "challenged" "[I" ∈ zT := zT_mem (List.mem_append_right _ (List.mem_append_right _ (List.mem_append_right _ (List.mem_of_getElem? (i := 14) rfl)))) rfl
theorem my_M_response : Cond.laysFinal R_M R_M "response" "[I" ∈ zT := zT_mem (List.mem_append_right _ (List.mem_append_right _ (List.mem_append_right _ (List.mem_of_getElem? (i := 16) rfl)))) rfl
theorem my_M_savedCommitment : Cond.laysFinal R_M R_M "savedCommitment" "[I" ∈ zT := zT_mem (List.mem_append_right _ (List.mem_append_right _ (List.mem_append_right _ (List.mem_of_getElem? (i := 18) rfl)))) rfl
theorem my_M_savedChallenge : Cond.laysFinal R_M R_M "savedChallenge" "[I" ∈ zT := zT_mem (List.mem_append_right _ (List.mem_append_right _ (List.mem_append_right _ (List.mem_of_getElem? (i := 20) rfl)))) rfl
theorem my_M_savedResponse : Cond.laysFinal R_M R_M "savedResponse" "[I" ∈ zT := zT_mem (List.mem_append_right _ (List.mem_append_right _ (List.mem_append_right _ (List.mem_of_getElem? (i := 22) rfl)))) rfl
theorem my_M_saved : Cond.lays R_M R_M "saved" "Z" ∈ zT := zT_mem (List.mem_append_right _ (List.mem_append_right _ (List.mem_append_right _ (List.mem_of_getElem? (i := 24) rfl)))) rfl
theorem my_M_committed : Cond.lays R_M R_M "committed" "Z" ∈ zT := zT_mem (List.mem_append_right _ (List.mem_append_right _ (List.mem_append_right _ (List.mem_of_getElem? (i := 26) rfl)))) rfl
theorem my_M_nonce : Cond.laysFinal R_M R_M "nonce" "[I" ∈ zT := zT_mem (List.mem_append_right _ (List.mem_append_right _ (List.mem_append_right _ (List.mem_of_getElem? (i := 28) rfl)))) rfl
theorem my_M_leftReal : Cond.laysFinal R_M R_M "leftReal" "[Z" ∈ zT := zT_mem (List.mem_append_right _ (List.mem_append_right _ (List.mem_append_right _ (List.mem_of_getElem? (i := 30) rfl)))) rfl
theorem my_M_drawn : Cond.laysFinal R_M R_M "drawn" "[I" ∈ zT := zT_mem (List.mem_append_right _ (List.mem_append_right _ (List.mem_append_right _ (List.mem_of_getElem? (i := 32) rfl)))) rfl
theorem my_M_state : Cond.lays R_M R_M "state" "I" ∈ zT := zT_mem (List.mem_append_right _ (List.mem_append_right _ (List.mem_append_right _ (List.mem_of_getElem? (i := 34) rfl)))) rfl
theorem my_M_todo : Cond.lays R_M R_M "todo" "I" ∈ zT := zT_mem (List.mem_append_right _ (List.mem_append_right _ (List.mem_append_right _ (List.mem_of_getElem? (i := 36) rfl)))) rfl
theorem my_M_queue : Cond.laysFinal R_M R_M "queue" "[I" ∈ zT := zT_mem (List.mem_append_right _ (List.mem_append_right _ (List.mem_append_right _ (List.mem_of_getElem? (i := 38) rfl)))) rfl
theorem my_M_with : Cond.laysFinal R_M R_M "with" "[I" ∈ zT := zT_mem (List.mem_append_right _ (List.mem_append_right _ (List.mem_append_right _ (List.mem_of_getElem? (i := 40) rfl)))) rfl
theorem my_M_real : Cond.laysFinal R_M R_M "real" "[Z" ∈ zT := zT_mem (List.mem_append_right _ (List.mem_append_right _ (List.mem_append_right _ (List.mem_of_getElem? (i := 42) rfl)))) rfl
theorem my_M_value : Cond.laysFinal R_M R_M "value" "[I" ∈ zT := zT_mem (List.mem_append_right _ (List.mem_append_right _ (List.mem_append_right _ (List.mem_of_getElem? (i := 44) rfl)))) rfl
theorem my_M_held : Cond.laysFinal R_M R_M "held" "[Z" ∈ zT := zT_mem (List.mem_append_right _ (List.mem_append_right _ (List.mem_append_right _ (List.mem_of_getElem? (i := 46) rfl)))) rfl
theorem ma_boolean : Cond.arrayClass .boolean ∈ zT := zT_mem (List.mem_append_right _ (List.mem_append_right _ (List.mem_append_right _ (List.mem_of_getElem? (i := 49) rfl)))) rfl
theorem mk_L_17 : Cond.methodLink R_L 17 y_M_power ∈ zT := zT_mem (List.mem_append_right _ (List.mem_append_right _ (List.mem_append_right _ (List.mem_of_getElem? (i := 50) rfl)))) rfl
theorem mo_M_power : Cond.instanceMethod y_M_power ∈ zT := zT_mem (List.mem_append_right _ (List.mem_append_right _ (List.mem_append_right _ (List.mem_of_getElem? (i := 51) rfl)))) rfl
theorem me_M_M_power_M : Cond.selects R_M y_M_power y_M_power ∈ zT := zT_mem (List.mem_append_right _ (List.mem_append_right _ (List.mem_append_right _ (List.mem_of_getElem? (i := 52) rfl)))) rfl
theorem mc_M_power : Cond.code y_M_power c_M_power 3 (some .int) ∈ zT := zT_mem (List.mem_append_right _ (List.mem_append_right _ (List.mem_append_right _ (List.mem_of_getElem? (i := 53) rfl)))) rfl
theorem mk_M_100 : Cond.methodLink R_M 100 y_M_isElement ∈ zT := zT_mem (List.mem_append_right _ (List.mem_append_right _ (List.mem_append_right _ (List.mem_of_getElem? (i := 54) rfl)))) rfl
theorem ms_M_isElement : Cond.static y_M_isElement ∈ zT := zT_mem (List.mem_append_right _ (List.mem_append_right _ (List.mem_append_right _ (List.mem_of_getElem? (i := 55) rfl)))) rfl
theorem mc_M_isElement : Cond.code y_M_isElement c_M_isElement 1 (some .boolean) ∈ zT := zT_mem (List.mem_append_right _ (List.mem_append_right _ (List.mem_append_right _ (List.mem_of_getElem? (i := 56) rfl)))) rfl
theorem mk_M_96 : Cond.methodLink R_M 96 y_M_raised ∈ zT := zT_mem (List.mem_append_right _ (List.mem_append_right _ (List.mem_append_right _ (List.mem_of_getElem? (i := 57) rfl)))) rfl
theorem ms_M_raised : Cond.static y_M_raised ∈ zT := zT_mem (List.mem_append_right _ (List.mem_append_right _ (List.mem_append_right _ (List.mem_of_getElem? (i := 58) rfl)))) rfl
theorem mc_M_raised : Cond.code y_M_raised c_M_raised 6 (some .int) ∈ zT := zT_mem (List.mem_append_right _ (List.mem_append_right _ (List.mem_append_right _ (List.mem_of_getElem? (i := 59) rfl)))) rfl
theorem mk_M_92 : Cond.methodLink R_M 92 y_M_times ∈ zT := zT_mem (List.mem_append_right _ (List.mem_append_right _ (List.mem_append_right _ (List.mem_of_getElem? (i := 60) rfl)))) rfl
theorem ms_M_times : Cond.static y_M_times ∈ zT := zT_mem (List.mem_append_right _ (List.mem_append_right _ (List.mem_append_right _ (List.mem_of_getElem? (i := 61) rfl)))) rfl
theorem mc_M_times : Cond.code y_M_times c_M_times 3 (some .int) ∈ zT := zT_mem (List.mem_append_right _ (List.mem_append_right _ (List.mem_append_right _ (List.mem_of_getElem? (i := 62) rfl)))) rfl
theorem mk_M_109 : Cond.methodLink R_M 109 y_M_isExponent ∈ zT := zT_mem (List.mem_append_right _ (List.mem_append_right _ (List.mem_append_right _ (List.mem_of_getElem? (i := 63) rfl)))) rfl
theorem ms_M_isExponent : Cond.static y_M_isExponent ∈ zT := zT_mem (List.mem_append_right _ (List.mem_append_right _ (List.mem_append_right _ (List.mem_of_getElem? (i := 64) rfl)))) rfl
theorem mc_M_isExponent : Cond.code y_M_isExponent c_M_isExponent 1 (some .boolean) ∈ zT := zT_mem (List.mem_append_right _ (List.mem_append_right _ (List.mem_append_right _ (List.mem_of_getElem? (i := 65) rfl)))) rfl
theorem mk_L_22 : Cond.methodLink R_L 22 y_M_leaf ∈ zT := zT_mem (List.mem_append_right _ (List.mem_append_right _ (List.mem_append_right _ (List.mem_of_getElem? (i := 66) rfl)))) rfl
theorem mo_M_leaf : Cond.instanceMethod y_M_leaf ∈ zT := zT_mem (List.mem_append_right _ (List.mem_append_right _ (List.mem_append_right _ (List.mem_of_getElem? (i := 67) rfl)))) rfl
theorem me_M_M_leaf_M : Cond.selects R_M y_M_leaf y_M_leaf ∈ zT := zT_mem (List.mem_append_right _ (List.mem_append_right _ (List.mem_append_right _ (List.mem_of_getElem? (i := 68) rfl)))) rfl
theorem mc_M_leaf : Cond.code y_M_leaf c_M_leaf 3 (some .boolean) ∈ zT := zT_mem (List.mem_append_right _ (List.mem_append_right _ (List.mem_append_right _ (List.mem_of_getElem? (i := 69) rfl)))) rfl
theorem mk_M_115 : Cond.methodLink R_M 115 y_M_isBase ∈ zT := zT_mem (List.mem_append_right _ (List.mem_append_right _ (List.mem_append_right _ (List.mem_of_getElem? (i := 70) rfl)))) rfl
theorem ms_M_isBase : Cond.static y_M_isBase ∈ zT := zT_mem (List.mem_append_right _ (List.mem_append_right _ (List.mem_append_right _ (List.mem_of_getElem? (i := 71) rfl)))) rfl
theorem mc_M_isBase : Cond.code y_M_isBase c_M_isBase 1 (some .boolean) ∈ zT := zT_mem (List.mem_append_right _ (List.mem_append_right _ (List.mem_append_right _ (List.mem_of_getElem? (i := 72) rfl)))) rfl
theorem mk_M_118 : Cond.methodLink R_M 118 y_M_push ∈ zT := zT_mem (List.mem_append_right _ (List.mem_append_right _ (List.mem_append_right _ (List.mem_of_getElem? (i := 73) rfl)))) rfl
theorem mo_M_push : Cond.instanceMethod y_M_push ∈ zT := zT_mem (List.mem_append_right _ (List.mem_append_right _ (List.mem_append_right _ (List.mem_of_getElem? (i := 75) rfl)))) rfl
theorem mc_M_push : Cond.code y_M_push c_M_push 7 none ∈ zT := zT_mem (List.mem_append_right _ (List.mem_append_right _ (List.mem_append_right _ (List.mem_of_getElem? (i := 76) rfl)))) rfl
theorem mk_L_27 : Cond.methodLink R_L 27 y_M_equal ∈ zT := zT_mem (List.mem_append_right _ (List.mem_append_right _ (List.mem_append_right _ (List.mem_of_getElem? (i := 77) rfl)))) rfl
theorem mo_M_equal : Cond.instanceMethod y_M_equal ∈ zT := zT_mem (List.mem_append_right _ (List.mem_append_right _ (List.mem_append_right _ (List.mem_of_getElem? (i := 78) rfl)))) rfl
theorem me_M_M_equal_M : Cond.selects R_M y_M_equal y_M_equal ∈ zT := zT_mem (List.mem_append_right _ (List.mem_append_right _ (List.mem_append_right _ (List.mem_of_getElem? (i := 79) rfl)))) rfl
theorem mc_M_equal : Cond.code y_M_equal c_M_equal 5 (some .boolean) ∈ zT := zT_mem (List.mem_append_right _ (List.mem_append_right _ (List.mem_append_right _ (List.mem_of_getElem? (i := 80) rfl)))) rfl
theorem mk_L_32 : Cond.methodLink R_L 32 y_M_join ∈ zT := zT_mem (List.mem_append_right _ (List.mem_append_right _ (List.mem_append_right _ (List.mem_of_getElem? (i := 81) rfl)))) rfl
theorem mo_M_join : Cond.instanceMethod y_M_join ∈ zT := zT_mem (List.mem_append_right _ (List.mem_append_right _ (List.mem_append_right _ (List.mem_of_getElem? (i := 82) rfl)))) rfl
theorem me_M_M_join_M : Cond.selects R_M y_M_join y_M_join ∈ zT := zT_mem (List.mem_append_right _ (List.mem_append_right _ (List.mem_append_right _ (List.mem_of_getElem? (i := 83) rfl)))) rfl
theorem mc_M_join : Cond.code y_M_join c_M_join 4 (some .boolean) ∈ zT := zT_mem (List.mem_append_right _ (List.mem_append_right _ (List.mem_append_right _ (List.mem_of_getElem? (i := 84) rfl)))) rfl
theorem mk_L_37 : Cond.methodLink R_L 37 y_M_discard ∈ zT := zT_mem (List.mem_append_right _ (List.mem_append_right _ (List.mem_append_right _ (List.mem_of_getElem? (i := 85) rfl)))) rfl
theorem mo_M_discard : Cond.instanceMethod y_M_discard ∈ zT := zT_mem (List.mem_append_right _ (List.mem_append_right _ (List.mem_append_right _ (List.mem_of_getElem? (i := 86) rfl)))) rfl
theorem me_M_M_discard_M : Cond.selects R_M y_M_discard y_M_discard ∈ zT := zT_mem (List.mem_append_right _ (List.mem_append_right _ (List.mem_append_right _ (List.mem_of_getElem? (i := 87) rfl)))) rfl
theorem mc_M_discard : Cond.code y_M_discard c_M_discard 1 (some .boolean) ∈ zT := zT_mem (List.mem_append_right _ (List.mem_append_right _ (List.mem_append_right _ (List.mem_of_getElem? (i := 88) rfl)))) rfl
theorem mk_L_42 : Cond.methodLink R_L 42 y_M_accept ∈ zT := zT_mem (List.mem_append_right _ (List.mem_append_right _ (List.mem_append_right _ (List.mem_of_getElem? (i := 89) rfl)))) rfl
theorem mo_M_accept : Cond.instanceMethod y_M_accept ∈ zT := zT_mem (List.mem_append_right _ (List.mem_append_right _ (List.mem_append_right _ (List.mem_of_getElem? (i := 90) rfl)))) rfl
theorem me_M_M_accept_M : Cond.selects R_M y_M_accept y_M_accept ∈ zT := zT_mem (List.mem_append_right _ (List.mem_append_right _ (List.mem_append_right _ (List.mem_of_getElem? (i := 91) rfl)))) rfl
theorem mc_M_accept : Cond.code y_M_accept c_M_accept 3 (some .int) ∈ zT := zT_mem (List.mem_append_right _ (List.mem_append_right _ (List.mem_append_right _ (List.mem_of_getElem? (i := 92) rfl)))) rfl
theorem mk_L_46 : Cond.methodLink R_L 46 y_M_tell ∈ zT := zT_mem (List.mem_append_right _ (List.mem_append_right _ (List.mem_append_right _ (List.mem_of_getElem? (i := 93) rfl)))) rfl
theorem mo_M_tell : Cond.instanceMethod y_M_tell ∈ zT := zT_mem (List.mem_append_right _ (List.mem_append_right _ (List.mem_append_right _ (List.mem_of_getElem? (i := 94) rfl)))) rfl
theorem me_M_M_tell_M : Cond.selects R_M y_M_tell y_M_tell ∈ zT := zT_mem (List.mem_append_right _ (List.mem_append_right _ (List.mem_append_right _ (List.mem_of_getElem? (i := 95) rfl)))) rfl
theorem mc_M_tell : Cond.code y_M_tell c_M_tell 3 (some .boolean) ∈ zT := zT_mem (List.mem_append_right _ (List.mem_append_right _ (List.mem_append_right _ (List.mem_of_getElem? (i := 96) rfl)))) rfl
theorem mk_M_135 : Cond.methodLink R_M 135 y_M_isLeaf ∈ zT := zT_mem (List.mem_append_right _ (List.mem_append_right _ (List.mem_append_right _ (List.mem_of_getElem? (i := 97) rfl)))) rfl
theorem mo_M_isLeaf : Cond.instanceMethod y_M_isLeaf ∈ zT := zT_mem (List.mem_append_right _ (List.mem_append_right _ (List.mem_append_right _ (List.mem_of_getElem? (i := 99) rfl)))) rfl
theorem mc_M_isLeaf : Cond.code y_M_isLeaf c_M_isLeaf 2 (some .boolean) ∈ zT := zT_mem (List.mem_append_right _ (List.mem_append_right _ (List.mem_append_right _ (List.mem_of_getElem? (i := 100) rfl)))) rfl
theorem mk_M_138 : Cond.methodLink R_M 138 y_M_isPair ∈ zT := zT_mem (List.mem_append_right _ (List.mem_append_right _ (List.mem_append_right _ (List.mem_of_getElem? (i := 101) rfl)))) rfl
theorem mo_M_isPair : Cond.instanceMethod y_M_isPair ∈ zT := zT_mem (List.mem_append_right _ (List.mem_append_right _ (List.mem_append_right _ (List.mem_of_getElem? (i := 103) rfl)))) rfl
theorem mc_M_isPair : Cond.code y_M_isPair c_M_isPair 3 (some .boolean) ∈ zT := zT_mem (List.mem_append_right _ (List.mem_append_right _ (List.mem_append_right _ (List.mem_of_getElem? (i := 104) rfl)))) rfl
theorem mk_L_51 : Cond.methodLink R_L 51 y_M_witness ∈ zT := zT_mem (List.mem_append_right _ (List.mem_append_right _ (List.mem_append_right _ (List.mem_of_getElem? (i := 105) rfl)))) rfl
theorem mo_M_witness : Cond.instanceMethod y_M_witness ∈ zT := zT_mem (List.mem_append_right _ (List.mem_append_right _ (List.mem_append_right _ (List.mem_of_getElem? (i := 106) rfl)))) rfl
theorem me_M_M_witness_M : Cond.selects R_M y_M_witness y_M_witness ∈ zT := zT_mem (List.mem_append_right _ (List.mem_append_right _ (List.mem_append_right _ (List.mem_of_getElem? (i := 107) rfl)))) rfl
theorem mc_M_witness : Cond.code y_M_witness c_M_witness 2 (some .int) ∈ zT := zT_mem (List.mem_append_right _ (List.mem_append_right _ (List.mem_append_right _ (List.mem_of_getElem? (i := 108) rfl)))) rfl
theorem mk_L_55 : Cond.methodLink R_L 55 y_M_known ∈ zT := zT_mem (List.mem_append_right _ (List.mem_append_right _ (List.mem_append_right _ (List.mem_of_getElem? (i := 109) rfl)))) rfl
theorem mo_M_known : Cond.instanceMethod y_M_known ∈ zT := zT_mem (List.mem_append_right _ (List.mem_append_right _ (List.mem_append_right _ (List.mem_of_getElem? (i := 110) rfl)))) rfl
theorem me_M_M_known_M : Cond.selects R_M y_M_known y_M_known ∈ zT := zT_mem (List.mem_append_right _ (List.mem_append_right _ (List.mem_append_right _ (List.mem_of_getElem? (i := 111) rfl)))) rfl
theorem mc_M_known : Cond.code y_M_known c_M_known 1 (some .boolean) ∈ zT := zT_mem (List.mem_append_right _ (List.mem_append_right _ (List.mem_append_right _ (List.mem_of_getElem? (i := 112) rfl)))) rfl
theorem mk_M_142 : Cond.methodLink R_M 142 y_M_know ∈ zT := zT_mem (List.mem_append_right _ (List.mem_append_right _ (List.mem_append_right _ (List.mem_of_getElem? (i := 113) rfl)))) rfl
theorem mo_M_know : Cond.instanceMethod y_M_know ∈ zT := zT_mem (List.mem_append_right _ (List.mem_append_right _ (List.mem_append_right _ (List.mem_of_getElem? (i := 115) rfl)))) rfl
theorem mc_M_know : Cond.code y_M_know c_M_know 2 none ∈ zT := zT_mem (List.mem_append_right _ (List.mem_append_right _ (List.mem_append_right _ (List.mem_of_getElem? (i := 116) rfl)))) rfl
theorem mk_L_59 : Cond.methodLink R_L 59 y_M_commit ∈ zT := zT_mem (List.mem_append_right _ (List.mem_append_right _ (List.mem_append_right _ (List.mem_of_getElem? (i := 117) rfl)))) rfl
theorem mo_M_commit : Cond.instanceMethod y_M_commit ∈ zT := zT_mem (List.mem_append_right _ (List.mem_append_right _ (List.mem_append_right _ (List.mem_of_getElem? (i := 118) rfl)))) rfl
theorem me_M_M_commit_M : Cond.selects R_M y_M_commit y_M_commit ∈ zT := zT_mem (List.mem_append_right _ (List.mem_append_right _ (List.mem_append_right _ (List.mem_of_getElem? (i := 119) rfl)))) rfl
theorem mc_M_commit : Cond.code y_M_commit c_M_commit 2 (some .int) ∈ zT := zT_mem (List.mem_append_right _ (List.mem_append_right _ (List.mem_append_right _ (List.mem_of_getElem? (i := 120) rfl)))) rfl
theorem mk_M_169 : Cond.methodLink R_M 169 y_M_known ∈ zT := zT_mem (List.mem_append_right _ (List.mem_append_right _ (List.mem_append_right _ (List.mem_of_getElem? (i := 121) rfl)))) rfl
theorem mk_M_173 : Cond.methodLink R_M 173 y_M_commitTree ∈ zT := zT_mem (List.mem_append_right _ (List.mem_append_right _ (List.mem_append_right _ (List.mem_of_getElem? (i := 122) rfl)))) rfl
theorem mo_M_commitTree : Cond.instanceMethod y_M_commitTree ∈ zT := zT_mem (List.mem_append_right _ (List.mem_append_right _ (List.mem_append_right _ (List.mem_of_getElem? (i := 124) rfl)))) rfl
theorem mc_M_commitTree : Cond.code y_M_commitTree c_M_commitTree 5 none ∈ zT := zT_mem (List.mem_append_right _ (List.mem_append_right _ (List.mem_append_right _ (List.mem_of_getElem? (i := 125) rfl)))) rfl
theorem mk_M_155 : Cond.methodLink R_M 155 y_M_later ∈ zT := zT_mem (List.mem_append_right _ (List.mem_append_right _ (List.mem_append_right _ (List.mem_of_getElem? (i := 126) rfl)))) rfl
theorem mo_M_later : Cond.instanceMethod y_M_later ∈ zT := zT_mem (List.mem_append_right _ (List.mem_append_right _ (List.mem_append_right _ (List.mem_of_getElem? (i := 128) rfl)))) rfl
theorem mc_M_later : Cond.code y_M_later c_M_later 4 none ∈ zT := zT_mem (List.mem_append_right _ (List.mem_append_right _ (List.mem_append_right _ (List.mem_of_getElem? (i := 129) rfl)))) rfl
theorem mk_M_159 : Cond.methodLink R_M 159 y_M_commitLeaf ∈ zT := zT_mem (List.mem_append_right _ (List.mem_append_right _ (List.mem_append_right _ (List.mem_of_getElem? (i := 130) rfl)))) rfl
theorem mo_M_commitLeaf : Cond.instanceMethod y_M_commitLeaf ∈ zT := zT_mem (List.mem_append_right _ (List.mem_append_right _ (List.mem_append_right _ (List.mem_of_getElem? (i := 132) rfl)))) rfl
theorem mc_M_commitLeaf : Cond.code y_M_commitLeaf c_M_commitLeaf 7 none ∈ zT := zT_mem (List.mem_append_right _ (List.mem_append_right _ (List.mem_append_right _ (List.mem_of_getElem? (i := 133) rfl)))) rfl
theorem mk_M_148 : Cond.methodLink R_M 148 y_M_draw ∈ zT := zT_mem (List.mem_append_right _ (List.mem_append_right _ (List.mem_append_right _ (List.mem_of_getElem? (i := 134) rfl)))) rfl
theorem mo_M_draw : Cond.instanceMethod y_M_draw ∈ zT := zT_mem (List.mem_append_right _ (List.mem_append_right _ (List.mem_append_right _ (List.mem_of_getElem? (i := 136) rfl)))) rfl
theorem mc_M_draw : Cond.code y_M_draw c_M_draw 1 (some .int) ∈ zT := zT_mem (List.mem_append_right _ (List.mem_append_right _ (List.mem_append_right _ (List.mem_of_getElem? (i := 137) rfl)))) rfl
theorem mn_M_108 : Cond.constant R_M 108 (1103515245) ∈ zT := zT_mem (List.mem_append_right _ (List.mem_append_right _ (List.mem_append_right _ (List.mem_of_getElem? (i := 138) rfl)))) rfl
theorem mk_M_162 : Cond.methodLink R_M 162 y_M_commitOr ∈ zT := zT_mem (List.mem_append_right _ (List.mem_append_right _ (List.mem_append_right _ (List.mem_of_getElem? (i := 139) rfl)))) rfl
theorem mo_M_commitOr : Cond.instanceMethod y_M_commitOr ∈ zT := zT_mem (List.mem_append_right _ (List.mem_append_right _ (List.mem_append_right _ (List.mem_of_getElem? (i := 141) rfl)))) rfl
theorem mc_M_commitOr : Cond.code y_M_commitOr c_M_commitOr 6 none ∈ zT := zT_mem (List.mem_append_right _ (List.mem_append_right _ (List.mem_append_right _ (List.mem_of_getElem? (i := 142) rfl)))) rfl
theorem mk_M_152 : Cond.methodLink R_M 152 y_M_less ∈ zT := zT_mem (List.mem_append_right _ (List.mem_append_right _ (List.mem_append_right _ (List.mem_of_getElem? (i := 143) rfl)))) rfl
theorem ms_M_less : Cond.static y_M_less ∈ zT := zT_mem (List.mem_append_right _ (List.mem_append_right _ (List.mem_append_right _ (List.mem_of_getElem? (i := 144) rfl)))) rfl
theorem mc_M_less : Cond.code y_M_less c_M_less 2 (some .int) ∈ zT := zT_mem (List.mem_append_right _ (List.mem_append_right _ (List.mem_append_right _ (List.mem_of_getElem? (i := 145) rfl)))) rfl
theorem mk_L_63 : Cond.methodLink R_L 63 y_M_respond ∈ zT := zT_mem (List.mem_append_right _ (List.mem_append_right _ (List.mem_append_right _ (List.mem_of_getElem? (i := 146) rfl)))) rfl
theorem mo_M_respond : Cond.instanceMethod y_M_respond ∈ zT := zT_mem (List.mem_append_right _ (List.mem_append_right _ (List.mem_append_right _ (List.mem_of_getElem? (i := 147) rfl)))) rfl
theorem me_M_M_respond_M : Cond.selects R_M y_M_respond y_M_respond ∈ zT := zT_mem (List.mem_append_right _ (List.mem_append_right _ (List.mem_append_right _ (List.mem_of_getElem? (i := 148) rfl)))) rfl
theorem mc_M_respond : Cond.code y_M_respond c_M_respond 2 (some .int) ∈ zT := zT_mem (List.mem_append_right _ (List.mem_append_right _ (List.mem_append_right _ (List.mem_of_getElem? (i := 149) rfl)))) rfl
theorem mk_M_177 : Cond.methodLink R_M 177 y_M_respondTree ∈ zT := zT_mem (List.mem_append_right _ (List.mem_append_right _ (List.mem_append_right _ (List.mem_of_getElem? (i := 150) rfl)))) rfl
theorem mo_M_respondTree : Cond.instanceMethod y_M_respondTree ∈ zT := zT_mem (List.mem_append_right _ (List.mem_append_right _ (List.mem_append_right _ (List.mem_of_getElem? (i := 152) rfl)))) rfl
theorem mc_M_respondTree : Cond.code y_M_respondTree c_M_respondTree 3 none ∈ zT := zT_mem (List.mem_append_right _ (List.mem_append_right _ (List.mem_append_right _ (List.mem_of_getElem? (i := 153) rfl)))) rfl
theorem mk_M_165 : Cond.methodLink R_M 165 y_M_respondLeaf ∈ zT := zT_mem (List.mem_append_right _ (List.mem_append_right _ (List.mem_append_right _ (List.mem_of_getElem? (i := 154) rfl)))) rfl
theorem mo_M_respondLeaf : Cond.instanceMethod y_M_respondLeaf ∈ zT := zT_mem (List.mem_append_right _ (List.mem_append_right _ (List.mem_append_right _ (List.mem_of_getElem? (i := 156) rfl)))) rfl
theorem mc_M_respondLeaf : Cond.code y_M_respondLeaf c_M_respondLeaf 3 none ∈ zT := zT_mem (List.mem_append_right _ (List.mem_append_right _ (List.mem_append_right _ (List.mem_of_getElem? (i := 157) rfl)))) rfl
theorem mk_L_67 : Cond.methodLink R_L 67 y_M_simulate ∈ zT := zT_mem (List.mem_append_right _ (List.mem_append_right _ (List.mem_append_right _ (List.mem_of_getElem? (i := 158) rfl)))) rfl
theorem mo_M_simulate : Cond.instanceMethod y_M_simulate ∈ zT := zT_mem (List.mem_append_right _ (List.mem_append_right _ (List.mem_append_right _ (List.mem_of_getElem? (i := 159) rfl)))) rfl
theorem me_M_M_simulate_M : Cond.selects R_M y_M_simulate y_M_simulate ∈ zT := zT_mem (List.mem_append_right _ (List.mem_append_right _ (List.mem_append_right _ (List.mem_of_getElem? (i := 160) rfl)))) rfl
theorem mc_M_simulate : Cond.code y_M_simulate c_M_simulate 3 (some .int) ∈ zT := zT_mem (List.mem_append_right _ (List.mem_append_right _ (List.mem_append_right _ (List.mem_of_getElem? (i := 161) rfl)))) rfl
theorem mk_L_71 : Cond.methodLink R_L 71 y_M_prove ∈ zT := zT_mem (List.mem_append_right _ (List.mem_append_right _ (List.mem_append_right _ (List.mem_of_getElem? (i := 162) rfl)))) rfl
theorem mo_M_prove : Cond.instanceMethod y_M_prove ∈ zT := zT_mem (List.mem_append_right _ (List.mem_append_right _ (List.mem_append_right _ (List.mem_of_getElem? (i := 163) rfl)))) rfl
theorem me_M_M_prove_M : Cond.selects R_M y_M_prove y_M_prove ∈ zT := zT_mem (List.mem_append_right _ (List.mem_append_right _ (List.mem_append_right _ (List.mem_of_getElem? (i := 164) rfl)))) rfl
theorem mc_M_prove : Cond.code y_M_prove c_M_prove 4 (some .int) ∈ zT := zT_mem (List.mem_append_right _ (List.mem_append_right _ (List.mem_append_right _ (List.mem_of_getElem? (i := 165) rfl)))) rfl
theorem mk_M_182 : Cond.methodLink R_M 182 y_M_commit ∈ zT := zT_mem (List.mem_append_right _ (List.mem_append_right _ (List.mem_append_right _ (List.mem_of_getElem? (i := 166) rfl)))) rfl
theorem mk_M_186 : Cond.methodLink R_M 186 y_M_hashed ∈ zT := zT_mem (List.mem_append_right _ (List.mem_append_right _ (List.mem_append_right _ (List.mem_of_getElem? (i := 167) rfl)))) rfl
theorem mo_M_hashed : Cond.instanceMethod y_M_hashed ∈ zT := zT_mem (List.mem_append_right _ (List.mem_append_right _ (List.mem_append_right _ (List.mem_of_getElem? (i := 169) rfl)))) rfl
theorem mc_M_hashed : Cond.code y_M_hashed c_M_hashed 4 (some .int) ∈ zT := zT_mem (List.mem_append_right _ (List.mem_append_right _ (List.mem_append_right _ (List.mem_of_getElem? (i := 170) rfl)))) rfl
theorem mn_M_181 : Cond.constant R_M 181 (2147483647) ∈ zT := zT_mem (List.mem_append_right _ (List.mem_append_right _ (List.mem_append_right _ (List.mem_of_getElem? (i := 171) rfl)))) rfl
theorem mk_L_75 : Cond.methodLink R_L 75 y_M_hash ∈ zT := zT_mem (List.mem_append_right _ (List.mem_append_right _ (List.mem_append_right _ (List.mem_of_getElem? (i := 172) rfl)))) rfl
theorem mo_M_hash : Cond.instanceMethod y_M_hash ∈ zT := zT_mem (List.mem_append_right _ (List.mem_append_right _ (List.mem_append_right _ (List.mem_of_getElem? (i := 173) rfl)))) rfl
theorem me_M_M_hash_M : Cond.selects R_M y_M_hash y_M_hash ∈ zT := zT_mem (List.mem_append_right _ (List.mem_append_right _ (List.mem_append_right _ (List.mem_of_getElem? (i := 174) rfl)))) rfl
theorem mc_M_hash : Cond.code y_M_hash c_M_hash 1 (some .int) ∈ zT := zT_mem (List.mem_append_right _ (List.mem_append_right _ (List.mem_append_right _ (List.mem_of_getElem? (i := 175) rfl)))) rfl
theorem mk_L_79 : Cond.methodLink R_L 79 y_M_verify ∈ zT := zT_mem (List.mem_append_right _ (List.mem_append_right _ (List.mem_append_right _ (List.mem_of_getElem? (i := 176) rfl)))) rfl
theorem mo_M_verify : Cond.instanceMethod y_M_verify ∈ zT := zT_mem (List.mem_append_right _ (List.mem_append_right _ (List.mem_append_right _ (List.mem_of_getElem? (i := 177) rfl)))) rfl
theorem me_M_M_verify_M : Cond.selects R_M y_M_verify y_M_verify ∈ zT := zT_mem (List.mem_append_right _ (List.mem_append_right _ (List.mem_append_right _ (List.mem_of_getElem? (i := 178) rfl)))) rfl
theorem mc_M_verify : Cond.code y_M_verify c_M_verify 1 (some .boolean) ∈ zT := zT_mem (List.mem_append_right _ (List.mem_append_right _ (List.mem_append_right _ (List.mem_of_getElem? (i := 179) rfl)))) rfl
theorem mk_M_197 : Cond.methodLink R_M 197 y_M_isAccepted ∈ zT := zT_mem (List.mem_append_right _ (List.mem_append_right _ (List.mem_append_right _ (List.mem_of_getElem? (i := 180) rfl)))) rfl
theorem mo_M_isAccepted : Cond.instanceMethod y_M_isAccepted ∈ zT := zT_mem (List.mem_append_right _ (List.mem_append_right _ (List.mem_append_right _ (List.mem_of_getElem? (i := 182) rfl)))) rfl
theorem mc_M_isAccepted : Cond.code y_M_isAccepted c_M_isAccepted 4 (some .boolean) ∈ zT := zT_mem (List.mem_append_right _ (List.mem_append_right _ (List.mem_append_right _ (List.mem_of_getElem? (i := 183) rfl)))) rfl
theorem mk_M_189 : Cond.methodLink R_M 189 y_M_joined ∈ zT := zT_mem (List.mem_append_right _ (List.mem_append_right _ (List.mem_append_right _ (List.mem_of_getElem? (i := 184) rfl)))) rfl
theorem mo_M_joined : Cond.instanceMethod y_M_joined ∈ zT := zT_mem (List.mem_append_right _ (List.mem_append_right _ (List.mem_append_right _ (List.mem_of_getElem? (i := 186) rfl)))) rfl
theorem mc_M_joined : Cond.code y_M_joined c_M_joined 5 (some .int) ∈ zT := zT_mem (List.mem_append_right _ (List.mem_append_right _ (List.mem_append_right _ (List.mem_of_getElem? (i := 187) rfl)))) rfl
theorem mk_M_193 : Cond.methodLink R_M 193 y_M_accepts ∈ zT := zT_mem (List.mem_append_right _ (List.mem_append_right _ (List.mem_append_right _ (List.mem_of_getElem? (i := 188) rfl)))) rfl
theorem mo_M_accepts : Cond.instanceMethod y_M_accepts ∈ zT := zT_mem (List.mem_append_right _ (List.mem_append_right _ (List.mem_append_right _ (List.mem_of_getElem? (i := 190) rfl)))) rfl
theorem mc_M_accepts : Cond.code y_M_accepts c_M_accepts 9 (some .boolean) ∈ zT := zT_mem (List.mem_append_right _ (List.mem_append_right _ (List.mem_append_right _ (List.mem_of_getElem? (i := 191) rfl)))) rfl
theorem mk_L_83 : Cond.methodLink R_L 83 y_M_challenge ∈ zT := zT_mem (List.mem_append_right _ (List.mem_append_right _ (List.mem_append_right _ (List.mem_of_getElem? (i := 192) rfl)))) rfl
theorem mo_M_challenge : Cond.instanceMethod y_M_challenge ∈ zT := zT_mem (List.mem_append_right _ (List.mem_append_right _ (List.mem_append_right _ (List.mem_of_getElem? (i := 193) rfl)))) rfl
theorem me_M_M_challenge_M : Cond.selects R_M y_M_challenge y_M_challenge ∈ zT := zT_mem (List.mem_append_right _ (List.mem_append_right _ (List.mem_append_right _ (List.mem_of_getElem? (i := 194) rfl)))) rfl
theorem mc_M_challenge : Cond.code y_M_challenge c_M_challenge 2 (some .int) ∈ zT := zT_mem (List.mem_append_right _ (List.mem_append_right _ (List.mem_append_right _ (List.mem_of_getElem? (i := 195) rfl)))) rfl
theorem mk_L_87 : Cond.methodLink R_L 87 y_M_part ∈ zT := zT_mem (List.mem_append_right _ (List.mem_append_right _ (List.mem_append_right _ (List.mem_of_getElem? (i := 196) rfl)))) rfl
theorem mo_M_part : Cond.instanceMethod y_M_part ∈ zT := zT_mem (List.mem_append_right _ (List.mem_append_right _ (List.mem_append_right _ (List.mem_of_getElem? (i := 197) rfl)))) rfl
theorem me_M_M_part_M : Cond.selects R_M y_M_part y_M_part ∈ zT := zT_mem (List.mem_append_right _ (List.mem_append_right _ (List.mem_append_right _ (List.mem_of_getElem? (i := 198) rfl)))) rfl
theorem mc_M_part : Cond.code y_M_part c_M_part 3 (some .int) ∈ zT := zT_mem (List.mem_append_right _ (List.mem_append_right _ (List.mem_append_right _ (List.mem_of_getElem? (i := 199) rfl)))) rfl
theorem mk_M_201 : Cond.methodLink R_M 201 y_M_isPart ∈ zT := zT_mem (List.mem_append_right _ (List.mem_append_right _ (List.mem_append_right _ (List.mem_of_getElem? (i := 200) rfl)))) rfl
theorem mo_M_isPart : Cond.instanceMethod y_M_isPart ∈ zT := zT_mem (List.mem_append_right _ (List.mem_append_right _ (List.mem_append_right _ (List.mem_of_getElem? (i := 202) rfl)))) rfl
theorem mc_M_isPart : Cond.code y_M_isPart c_M_isPart 3 (some .boolean) ∈ zT := zT_mem (List.mem_append_right _ (List.mem_append_right _ (List.mem_append_right _ (List.mem_of_getElem? (i := 203) rfl)))) rfl
theorem mk_L_92 : Cond.methodLink R_L 92 y_M_change ∈ zT := zT_mem (List.mem_append_right _ (List.mem_append_right _ (List.mem_append_right _ (List.mem_of_getElem? (i := 204) rfl)))) rfl
theorem mo_M_change : Cond.instanceMethod y_M_change ∈ zT := zT_mem (List.mem_append_right _ (List.mem_append_right _ (List.mem_append_right _ (List.mem_of_getElem? (i := 205) rfl)))) rfl
theorem me_M_M_change_M : Cond.selects R_M y_M_change y_M_change ∈ zT := zT_mem (List.mem_append_right _ (List.mem_append_right _ (List.mem_append_right _ (List.mem_of_getElem? (i := 206) rfl)))) rfl
theorem mc_M_change : Cond.code y_M_change c_M_change 4 (some .boolean) ∈ zT := zT_mem (List.mem_append_right _ (List.mem_append_right _ (List.mem_append_right _ (List.mem_of_getElem? (i := 207) rfl)))) rfl
theorem mk_L_96 : Cond.methodLink R_L 96 y_M_save ∈ zT := zT_mem (List.mem_append_right _ (List.mem_append_right _ (List.mem_append_right _ (List.mem_of_getElem? (i := 208) rfl)))) rfl
theorem mo_M_save : Cond.instanceMethod y_M_save ∈ zT := zT_mem (List.mem_append_right _ (List.mem_append_right _ (List.mem_append_right _ (List.mem_of_getElem? (i := 209) rfl)))) rfl
theorem me_M_M_save_M : Cond.selects R_M y_M_save y_M_save ∈ zT := zT_mem (List.mem_append_right _ (List.mem_append_right _ (List.mem_append_right _ (List.mem_of_getElem? (i := 210) rfl)))) rfl
theorem mc_M_save : Cond.code y_M_save c_M_save 2 (some .boolean) ∈ zT := zT_mem (List.mem_append_right _ (List.mem_append_right _ (List.mem_append_right _ (List.mem_of_getElem? (i := 211) rfl)))) rfl
theorem mk_L_100 : Cond.methodLink R_L 100 y_M_extract ∈ zT := zT_mem (List.mem_append_right _ (List.mem_append_right _ (List.mem_append_right _ (List.mem_of_getElem? (i := 212) rfl)))) rfl
theorem mo_M_extract : Cond.instanceMethod y_M_extract ∈ zT := zT_mem (List.mem_append_right _ (List.mem_append_right _ (List.mem_append_right _ (List.mem_of_getElem? (i := 213) rfl)))) rfl
theorem me_M_M_extract_M : Cond.selects R_M y_M_extract y_M_extract ∈ zT := zT_mem (List.mem_append_right _ (List.mem_append_right _ (List.mem_append_right _ (List.mem_of_getElem? (i := 214) rfl)))) rfl
theorem mc_M_extract : Cond.code y_M_extract c_M_extract 5 (some .int) ∈ zT := zT_mem (List.mem_append_right _ (List.mem_append_right _ (List.mem_append_right _ (List.mem_of_getElem? (i := 215) rfl)))) rfl
theorem mk_M_204 : Cond.methodLink R_M 204 y_M_sameCommitments ∈ zT := zT_mem (List.mem_append_right _ (List.mem_append_right _ (List.mem_append_right _ (List.mem_of_getElem? (i := 216) rfl)))) rfl
theorem mo_M_sameCommitments : Cond.instanceMethod y_M_sameCommitments ∈ zT := zT_mem (List.mem_append_right _ (List.mem_append_right _ (List.mem_append_right _ (List.mem_of_getElem? (i := 218) rfl)))) rfl
theorem mc_M_sameCommitments : Cond.code y_M_sameCommitments c_M_sameCommitments 3 (some .boolean) ∈ zT := zT_mem (List.mem_append_right _ (List.mem_append_right _ (List.mem_append_right _ (List.mem_of_getElem? (i := 219) rfl)))) rfl
theorem mk_M_207 : Cond.methodLink R_M 207 y_M_inverse ∈ zT := zT_mem (List.mem_append_right _ (List.mem_append_right _ (List.mem_append_right _ (List.mem_of_getElem? (i := 220) rfl)))) rfl
theorem ms_M_inverse : Cond.static y_M_inverse ∈ zT := zT_mem (List.mem_append_right _ (List.mem_append_right _ (List.mem_append_right _ (List.mem_of_getElem? (i := 221) rfl)))) rfl
theorem mc_M_inverse : Cond.code y_M_inverse c_M_inverse 3 (some .int) ∈ zT := zT_mem (List.mem_append_right _ (List.mem_append_right _ (List.mem_append_right _ (List.mem_of_getElem? (i := 222) rfl)))) rfl
theorem mx_A_S : Cond.castable R_A R_S ∈ lw_tbl := List.mem_append_right _ (List.mem_append_right _ (List.mem_append_right _ (List.mem_of_getElem? (i := 223) rfl)))
theorem mx_F_S : Cond.castable R_F R_S ∈ lw_tbl := List.mem_append_right _ (List.mem_append_right _ (List.mem_append_right _ (List.mem_of_getElem? (i := 224) rfl)))
theorem mx_O_S : Cond.castable R_O R_S ∈ lw_tbl := List.mem_append_right _ (List.mem_append_right _ (List.mem_append_right _ (List.mem_of_getElem? (i := 225) rfl)))
theorem me_D_D_isFull_D : Cond.selects R_D y_D_isFull y_D_isFull ∈ zT := zT_mem (List.mem_append_left _ (List.mem_of_getElem? (i := 0) rfl)) rfl
theorem me_D_D_push_D : Cond.selects R_D y_D_push y_D_push ∈ zT := zT_mem (List.mem_append_left _ (List.mem_of_getElem? (i := 1) rfl)) rfl
theorem me_D_D_drop_D : Cond.selects R_D y_D_drop y_D_drop ∈ zT := zT_mem (List.mem_append_left _ (List.mem_of_getElem? (i := 2) rfl)) rfl
theorem me_D_D_isLeaf_D : Cond.selects R_D y_D_isLeaf y_D_isLeaf ∈ zT := zT_mem (List.mem_append_left _ (List.mem_of_getElem? (i := 3) rfl)) rfl
theorem me_D_D_isAccepted_D : Cond.selects R_D y_D_isAccepted y_D_isAccepted ∈ zT := zT_mem (List.mem_append_left _ (List.mem_of_getElem? (i := 4) rfl)) rfl
theorem me_D_D_isPart_D : Cond.selects R_D y_D_isPart y_D_isPart ∈ zT := zT_mem (List.mem_append_left _ (List.mem_of_getElem? (i := 5) rfl)) rfl
theorem me_D_D_sameCommitments_D : Cond.selects R_D y_D_sameCommitments y_D_sameCommitments ∈ zT := zT_mem (List.mem_append_left _ (List.mem_of_getElem? (i := 6) rfl)) rfl
theorem me_D_D_givenAway_D : Cond.selects R_D y_D_givenAway y_D_givenAway ∈ zT := zT_mem (List.mem_append_left _ (List.mem_of_getElem? (i := 7) rfl)) rfl
theorem me_M_M_push_M : Cond.selects R_M y_M_push y_M_push ∈ zT := zT_mem (List.mem_append_left _ (List.mem_of_getElem? (i := 8) rfl)) rfl
theorem me_M_M_isLeaf_M : Cond.selects R_M y_M_isLeaf y_M_isLeaf ∈ zT := zT_mem (List.mem_append_left _ (List.mem_of_getElem? (i := 9) rfl)) rfl
theorem me_M_M_isPair_M : Cond.selects R_M y_M_isPair y_M_isPair ∈ zT := zT_mem (List.mem_append_left _ (List.mem_of_getElem? (i := 10) rfl)) rfl
theorem me_M_M_know_M : Cond.selects R_M y_M_know y_M_know ∈ zT := zT_mem (List.mem_append_left _ (List.mem_of_getElem? (i := 11) rfl)) rfl
theorem me_M_M_commitTree_M : Cond.selects R_M y_M_commitTree y_M_commitTree ∈ zT := zT_mem (List.mem_append_left _ (List.mem_of_getElem? (i := 12) rfl)) rfl
theorem me_M_M_later_M : Cond.selects R_M y_M_later y_M_later ∈ zT := zT_mem (List.mem_append_left _ (List.mem_of_getElem? (i := 13) rfl)) rfl
theorem me_M_M_commitLeaf_M : Cond.selects R_M y_M_commitLeaf y_M_commitLeaf ∈ zT := zT_mem (List.mem_append_left _ (List.mem_of_getElem? (i := 14) rfl)) rfl
theorem me_M_M_draw_M : Cond.selects R_M y_M_draw y_M_draw ∈ zT := zT_mem (List.mem_append_left _ (List.mem_of_getElem? (i := 15) rfl)) rfl
theorem me_M_M_commitOr_M : Cond.selects R_M y_M_commitOr y_M_commitOr ∈ zT := zT_mem (List.mem_append_left _ (List.mem_of_getElem? (i := 16) rfl)) rfl
theorem me_M_M_respondTree_M : Cond.selects R_M y_M_respondTree y_M_respondTree ∈ zT := zT_mem (List.mem_append_left _ (List.mem_of_getElem? (i := 17) rfl)) rfl
theorem me_M_M_respondLeaf_M : Cond.selects R_M y_M_respondLeaf y_M_respondLeaf ∈ zT := zT_mem (List.mem_append_left _ (List.mem_of_getElem? (i := 18) rfl)) rfl
theorem me_M_M_hashed_M : Cond.selects R_M y_M_hashed y_M_hashed ∈ zT := zT_mem (List.mem_append_left _ (List.mem_of_getElem? (i := 19) rfl)) rfl
theorem me_M_M_isAccepted_M : Cond.selects R_M y_M_isAccepted y_M_isAccepted ∈ zT := zT_mem (List.mem_append_left _ (List.mem_of_getElem? (i := 20) rfl)) rfl
theorem me_M_M_joined_M : Cond.selects R_M y_M_joined y_M_joined ∈ zT := zT_mem (List.mem_append_left _ (List.mem_of_getElem? (i := 21) rfl)) rfl
theorem me_M_M_accepts_M : Cond.selects R_M y_M_accepts y_M_accepts ∈ zT := zT_mem (List.mem_append_left _ (List.mem_of_getElem? (i := 22) rfl)) rfl
theorem me_M_M_isPart_M : Cond.selects R_M y_M_isPart y_M_isPart ∈ zT := zT_mem (List.mem_append_left _ (List.mem_of_getElem? (i := 23) rfl)) rfl
theorem me_M_M_sameCommitments_M : Cond.selects R_M y_M_sameCommitments y_M_sameCommitments ∈ zT := zT_mem (List.mem_append_left _ (List.mem_of_getElem? (i := 24) rfl)) rfl
theorem in_D : ∀ w ∈ u_ws R_D T_D 10, w ∈ zT := by
  intro w hw
  obtain ⟨k, hk, rfl⟩ := List.mem_map.mp hw
  have hk := List.mem_range.mp hk
  rcases (show k = 0 ∨ k = 1 ∨ k = 2 ∨ k = 3 ∨ k = 4 ∨ k = 5 ∨ k = 6 ∨ k = 7 ∨ k = 8 ∨ k = 9 by omega) with rfl | rfl | rfl | rfl | rfl | rfl | rfl | rfl | rfl | rfl
  · exact my_D_stack
  · exact my_D_height
  · exact my_D_tree
  · exact my_D_leaves
  · exact my_D_leafCount
  · exact my_D_drawing
  · exact my_D_present
  · exact my_D_kept
  · exact my_D_isKept
  · exact my_D_canRespond
theorem in_M : ∀ w ∈ u_ws R_M T_M 34, w ∈ zT := by
  intro w hw
  obtain ⟨k, hk, rfl⟩ := List.mem_map.mp hw
  have hk := List.mem_range.mp hk
  rcases (show k = 0 ∨ k = 1 ∨ k = 2 ∨ k = 3 ∨ k = 4 ∨ k = 5 ∨ k = 6 ∨ k = 7 ∨ k = 8 ∨ k = 9 ∨ k = 10 ∨ k = 11 ∨ k = 12 ∨ k = 13 ∨ k = 14 ∨ k = 15 ∨ k = 16 ∨ k = 17 ∨ k = 18 ∨ k = 19 ∨ k = 20 ∨ k = 21 ∨ k = 22 ∨ k = 23 ∨ k = 24 ∨ k = 25 ∨ k = 26 ∨ k = 27 ∨ k = 28 ∨ k = 29 ∨ k = 30 ∨ k = 31 ∨ k = 32 ∨ k = 33 by omega) with rfl | rfl | rfl | rfl | rfl | rfl | rfl | rfl | rfl | rfl | rfl | rfl | rfl | rfl | rfl | rfl | rfl | rfl | rfl | rfl | rfl | rfl | rfl | rfl | rfl | rfl | rfl | rfl | rfl | rfl | rfl | rfl | rfl | rfl
  · exact my_M_kind
  · exact my_M_base
  · exact my_M_image
  · exact my_M_base2
  · exact my_M_image2
  · exact my_M_start
  · exact my_M_node
  · exact my_M_left
  · exact my_M_right
  · exact my_M_leafOf
  · exact my_M_bases
  · exact my_M_images
  · exact my_M_witnesses
  · exact my_M_commitment
  · exact my_M_challenged
  · exact my_M_response
  · exact my_M_savedCommitment
  · exact my_M_savedChallenge
  · exact my_M_savedResponse
  · exact my_M_nonce
  · exact my_M_leftReal
  · exact my_M_drawn
  · exact my_M_queue
  · exact my_M_with
  · exact my_M_real
  · exact my_M_value
  · exact my_M_held
  · exact my_M_top
  · exact my_M_size
  · exact my_M_leaves
  · exact my_M_saved
  · exact my_M_committed
  · exact my_M_state
  · exact my_M_todo
theorem in_A : ∀ w ∈ u_ws R_A T_A 3, w ∈ zT := by
  intro w hw
  obtain ⟨k, hk, rfl⟩ := List.mem_map.mp hw
  have hk := List.mem_range.mp hk
  rcases (show k = 0 ∨ k = 1 ∨ k = 2 by omega) with rfl | rfl | rfl
  · exact my_A_left
  · exact my_A_right
  · exact my_A_size
theorem in_O : ∀ w ∈ u_ws R_O T_O 5, w ∈ zT := by
  intro w hw
  obtain ⟨k, hk, rfl⟩ := List.mem_map.mp hw
  have hk := List.mem_range.mp hk
  rcases (show k = 0 ∨ k = 1 ∨ k = 2 ∨ k = 3 ∨ k = 4 by omega) with rfl | rfl | rfl | rfl | rfl
  · exact my_O_left
  · exact my_O_right
  · exact my_O_size
  · exact my_O_leftIsReal
  · exact my_O_otherChallenge
theorem in_F : ∀ w ∈ u_ws R_F T_F 7, w ∈ zT := by
  intro w hw
  obtain ⟨k, hk, rfl⟩ := List.mem_map.mp hw
  have hk := List.mem_range.mp hk
  rcases (show k = 0 ∨ k = 1 ∨ k = 2 ∨ k = 3 ∨ k = 4 ∨ k = 5 ∨ k = 6 by omega) with rfl | rfl | rfl | rfl | rfl | rfl | rfl
  · exact my_F_size
  · exact my_F_bases
  · exact my_F_elements
  · exact my_F_number
  · exact my_F_told
  · exact my_F_witness
  · exact my_F_nonce
theorem in_T : ∀ w ∈ u_ws R_T T_T 1, w ∈ zT := by
  intro w hw
  obtain ⟨k, hk, rfl⟩ := List.mem_map.mp hw
  have hk := List.mem_range.mp hk
  rcases (show k = 0 by omega) with rfl
  · exact my_T_parts
theorem in_G : ∀ w ∈ u_ws R_G T_G 1, w ∈ zT := by
  intro w hw
  obtain ⟨k, hk, rfl⟩ := List.mem_map.mp hw
  have hk := List.mem_range.mp hk
  rcases (show k = 0 by omega) with rfl
  · exact my_G_state
end
section
/-! numbers: powers, the two ways of raising, ranges of a number that stands for an int -/
theorem zp_sq (b k m : Nat) : (b ^ k % m) * (b ^ k % m) % m = b ^ (2 * k) % m := by
  rw [← Nat.mul_mod, ← Nat.pow_add, Nat.two_mul]
theorem zp_mul (b k m : Nat) : (b ^ k % m) * b % m = b ^ (k + 1) % m := by
  rw [Nat.pow_succ, Nat.mul_mod, Nat.mod_mod, ← Nat.mul_mod]
theorem zp_mulk (b k i m : Nat) : (b ^ (k * i) % m) * (b ^ k % m) % m = b ^ (k * (i + 1)) % m := by
  rw [← Nat.mul_mod, ← Nat.pow_add, Nat.mul_succ]
theorem zp_bit0 {e j : Nat} (h : e / 2 ^ j % 2 = 0) : 2 * (e / 2 ^ (j + 1)) = e / 2 ^ j := by
  rw [Nat.pow_succ, ← Nat.div_div_eq_div_mul]; omega
theorem zp_bit1 {e j : Nat} (h : e / 2 ^ j % 2 = 1) : 2 * (e / 2 ^ (j + 1)) + 1 = e / 2 ^ j := by
  rw [Nat.pow_succ, ← Nat.div_div_eq_div_mul]; omega
theorem zn_of (x : Int32) : ∃ n : Nat, n < 2 ^ 32 ∧ x = nI n := ⟨x.toBitVec.toNat, x.toBitVec.isLt, Int32.toBitVec_inj.mp (by show _ = BitVec.ofNat 32 _; simp)⟩
theorem zn_tn (n : Nat) : (nI n).toBitVec.toNat = n % 2 ^ 32 := rfl
theorem zn_mod (n : Nat) : nI (n % 2 ^ 32) = nI n := by
  apply Int32.toBitVec_inj.mp
  apply BitVec.eq_of_toNat_eq
  rw [zn_tn, zn_tn, Nat.mod_mod]
theorem zn_m1 : nI 4294967295 = -1 := by decide
theorem zn_inj {a b : Nat} (ha : a < 2 ^ 32) (hb : b < 2 ^ 32) : nI a = nI b ↔ a = b := by
  refine ⟨fun h => ?_, fun h => by rw [h]⟩
  have h1 := congrArg (fun z : Int32 => z.toBitVec.toNat) h
  simp only [zn_tn] at h1
  rwa [Nat.mod_eq_of_lt ha, Nat.mod_eq_of_lt hb] at h1
theorem zn_toInt {n : Nat} (h : n < 2 ^ 32) : (nI n).toInt = if n < 2 ^ 31 then (n : Int) else (n : Int) - 2 ^ 32 := by
  have c := BitVec.toInt_eq_toNat_cond (nI n).toBitVec
  rw [zn_tn, Nat.mod_eq_of_lt h] at c
  show (nI n).toBitVec.toInt = _
  rw [c]
  split <;> (try split) <;> omega
theorem zn_lt {a b : Nat} (ha : a < 2 ^ 32) (hb : b < 2 ^ 31) : nI a < nI b ↔ (a < b ∨ 2 ^ 31 ≤ a) := by
  rw [Int32.lt_iff_toInt_lt, zn_toInt ha, zn_toInt (by omega)]
  split <;> (try split) <;> omega
theorem zn_le {a b : Nat} (ha : a < 2 ^ 32) (hb : b < 2 ^ 31) : nI b ≤ nI a ↔ (b ≤ a ∧ a < 2 ^ 31) := by
  rw [Int32.le_iff_toInt_le, zn_toInt ha, zn_toInt (by omega)]
  split <;> (try split) <;> omega
theorem zn_lt0 {a : Nat} (ha : a < 2 ^ 32) : nI a < 0 ↔ 2 ^ 31 ≤ a := by
  have h := zn_lt (b := 0) ha (by decide)
  rw [show (0 : Int32) = nI 0 from rfl, h]; omega
theorem zn_ge0 {a : Nat} (ha : a < 2 ^ 32) : 0 ≤ nI a ↔ a < 2 ^ 31 := by
  have h := zn_le (b := 0) ha (by decide)
  rw [show (0 : Int32) = nI 0 from rfl, h]; omega
/-- a product that fits, divided with rest by m -/
theorem zn_mulrem {a b m : Nat} (h : a * b < 2 ^ 31) (h0 : 0 < m) (hm : m < 2 ^ 31) : nI a * nI b - nI a * nI b / nI m * nI m = nI (a * b % m) := by
  rw [pk_mul, pk_rem h h0 hm]
theorem zn_prod {x y m : Nat} (h : x < m) (hy : y < m) (hm : m ≤ 10007) : x * y < 2 ^ 31 := by
  have h1 : x * y ≤ 10006 * 10006 := Nat.mul_le_mul (by omega) (by omega)
  omega
def zb (b : Bool) : Int32 := if b then 1 else 0
theorem zb_nar (b : Bool) : narrow .boolean (.int (zb b)) = .int (zb b) := by cases b <;> rfl
/-- an element of the group, an exponent (numbers below 2^32 that stand for ints) -/
def el (n : Nat) : Bool := decide (1 ≤ n) && (decide (n < 10007) && decide (n ^ 5003 % 10007 = 1))
def ex (n : Nat) : Bool := decide (n < 5003)
def ls5 (a b : Nat) : Nat := (a + 5003 - b) % 5003
theorem zs_l : ∀ n, n < 32 → ((nI n &&& 31).toBitVec.smod 32).toNat = n := by decide +kernel
theorem zn_bit {e j : Nat} (he : e < 8192) (hj : j < 13) : nI e >>> (nI j &&& 31) &&& 1 = nI (e / 2 ^ j % 2) := by
  have h1 := pk_shrN (n := e) (by omega) (nI j &&& 31) j (zs_l j (by omega))
  have h2 := pk_andN (n := e / 2 ^ j) (Nat.lt_of_le_of_lt (Nat.div_le_self _ _) (by omega)) (m := 1) 1 (by decide)
  rw [h1]
  exact h2
theorem zn_dec (x : Int32) : x + (-1) = x - 1 := (Int32.sub_eq_add_neg x 1).symm
end
section
/-! calls of methods that change nothing -/
section ZZ
variable {p : Program} {l : Launch} {e : Env} {R : Room} {s : State} {m : MethodId} {args : Array Value} {below : List Frame} {meth : Method} {c : Code} {H H0 : Heap} {locs : List Loc} {cells slots pc nL : Nat} {ls : Array Slot} {rest st0 : List Value} {cc : ByteArray} {Q : State → Prop} {own : String}
theorem zz_as {x y : Int32} (h : x = y) (k : W p l e R s m args below meth c H locs cells slots Q (F0 m pc ls (.int y :: rest))) : W p l e R s m args below meth c H locs cells slots Q (F0 m pc ls (.int x :: rest)) := by
  rw [h]; exact k
theorem zz_asl {x y : Int64} (h : x = y) (k : W p l e R s m args below meth c H locs cells slots Q (F0 m pc ls (.long y :: rest))) : W p l e R s m args below meth c H locs cells slots Q (F0 m pc ls (.long x :: rest)) := by
  rw [h]; exact k
/-- the words and the room of a call, out of zT -/
theorem zz_cb {index maxL n mc ms : Nat} {y : MethodName} {bytes : ByteArray} {ret : Option FieldType} {rm : Room} (hts : ∀ w ∈ zT, w.before args s = true) (w1 : Cond.methodLink own index y ∈ zT) (w3 : Cond.initialized y.cls ∈ zT) (w4 : Cond.code y bytes maxL ret ∈ zT)
    (hd : y.cls ≠ "java/lang/invoke/MethodHandle" ∧ y.cls ≠ "java/lang/invoke/VarHandle" ∧ (parseMethodDescriptor y.desc).map (fun d => d.parameters.length) = some n)
    (hz : rm.cells = mc ∧ rm.slots = ms) (hR : rm.frames + 1 ≤ R.frames ∧ 8 + (maxL + 11) + rm.locals ≤ R.locals) : CallB R s args own index y bytes maxL ret (Cond.code y bytes maxL ret :: zT) rm mc ms n :=
  callB_of n hts (zG0 w4) rfl hz.1 hz.2 (hts _ w3) (hts _ w1) hd hR
/-- a static method that answers a number and changes nothing -/
theorem zz_cS {index maxL n : Nat} {y : MethodName} {bytes : ByteArray} {ret : Option FieldType} {rm : Room} {Pc : Array Value → State → Prop} {As : List Value} {r : Int32}
    (S : CallFix p m c cc nL s args zT own) (hM : Met l y (Cond.code y bytes maxL ret :: zT) rm Pc (QcRead r) 0 0 (fun _ => False))
    (w1 : Cond.methodLink own index y ∈ zT) (w2 : Cond.static y ∈ zT) (w3 : Cond.initialized y.cls ∈ zT) (w4 : Cond.code y bytes maxL ret ∈ zT)
    (hd : y.cls ≠ "java/lang/invoke/MethodHandle" ∧ y.cls ≠ "java/lang/invoke/VarHandle" ∧ (parseMethodDescriptor y.desc).map (fun d => d.parameters.length) = some n)
    (hz : rm.cells = 0 ∧ rm.slots = 0) (hR : rm.frames + 1 ≤ R.frames ∧ 8 + (maxL + 11) + rm.locals ≤ R.locals) (hp : PreS s H Pc As) (hn : As.length = n) (hsize : ls.size = nL)
    (hstack : st0 = As.reverse ++ rest) (hW : (rest.map fun v => v.category).sum ≤ 8) (hdg : decode cc pc = .ok (.invokestatic index, 3)) (hf : cells ≤ R.cells ∧ slots ≤ R.slots)
    (kk : W p l e R s m args below meth c H locs cells slots Q (F0 m (pc + 3) ls (.int r :: rest))) : W p l e R s m args below meth c H locs cells slots Q (F0 m pc ls st0) := by
  subst hstack
  exact W.callR (W.runS S hM ⟨zz_cb S.2.2.2.2 w1 w3 w4 hd hz hR, S.2.2.2.2 _ w2⟩ hp rfl hn hsize rfl (lv_room hW) hdg ⟨hf.1, hf.2⟩) kk
/-- a method of an object that answers a number and changes nothing -/
theorem zz_cV {index maxL n : Nat} {C : String} {b : Nat} {y : MethodName} {bytes : ByteArray} {ret : Option FieldType} {rm : Room} {Pc : Array Value → State → Prop} {As : List Value} {r : Int32}
    (S : CallFix p m c cc nL s args zT own) (hM : Met l y (Cond.code y bytes maxL ret :: zT) rm Pc (QcRead r) 0 0 (fun _ => False))
    (w1 : Cond.methodLink own index y ∈ zT) (w2 : Cond.instanceMethod y ∈ zT) (w5 : Cond.selects C y y ∈ zT) (w3 : Cond.initialized y.cls ∈ zT) (w4 : Cond.code y bytes maxL ret ∈ zT)
    (hd : y.cls ≠ "java/lang/invoke/MethodHandle" ∧ y.cls ≠ "java/lang/invoke/VarHandle" ∧ (parseMethodDescriptor y.desc).map (fun d => d.parameters.length) = some n)
    (hz : rm.cells = 0 ∧ rm.slots = 0) (hR : rm.frames + 1 ≤ R.frames ∧ 8 + (maxL + 11) + rm.locals ≤ R.locals) (hp : PreV s H C b Pc As) (hn : As.length = n) (hsize : ls.size = nL)
    (hstack : st0 = As.reverse ++ .ref b :: rest) (hW : (rest.map fun v => v.category).sum ≤ 8) (hdg : decode cc pc = .ok (.invokevirtual index, 3)) (hf : cells ≤ R.cells ∧ slots ≤ R.slots)
    (kk : W p l e R s m args below meth c H locs cells slots Q (F0 m (pc + 3) ls (.int r :: rest))) : W p l e R s m args below meth c H locs cells slots Q (F0 m pc ls st0) := by
  subst hstack
  exact W.callR (W.runV S hM ⟨zz_cb S.2.2.2.2 w1 w3 w4 hd hz hR, S.2.2.2.2 _ w2, S.2.2.2.2 _ w5⟩ hp rfl hn hsize rfl (lv_room hW) hdg ⟨hf.1, hf.2⟩) kk
/-- a static method of a nest mate that answers a number and changes nothing -/
theorem zz_cSN {index maxL n : Nat} {host : String} {y : MethodName} {bytes : ByteArray} {ret : Option FieldType} {rm : Room} {Pc : Array Value → State → Prop} {As : List Value} {r : Int32}
    (S : CallFix p m c cc nL s args zT own) (hM : Met l y (Cond.code y bytes maxL ret :: zT) rm Pc (QcRead r) 0 0 (fun _ => False))
    (hN : zN s) (w1 : Cond.methodLinkNest own index y host ∈ lw_tbl) (w2 : Cond.static y ∈ zT) (w3 : Cond.initialized y.cls ∈ zT) (w4 : Cond.code y bytes maxL ret ∈ zT)
    (hd : y.cls ≠ "java/lang/invoke/MethodHandle" ∧ y.cls ≠ "java/lang/invoke/VarHandle" ∧ (parseMethodDescriptor y.desc).map (fun d => d.parameters.length) = some n)
    (hz : rm.cells = 0 ∧ rm.slots = 0) (hR : rm.frames + 1 ≤ R.frames ∧ 8 + (maxL + 11) + rm.locals ≤ R.locals) (hp : PreS s H Pc As) (hn : As.length = n) (hsize : ls.size = nL)
    (hstack : st0 = As.reverse ++ rest) (hW : (rest.map fun v => v.category).sum ≤ 8) (hdg : decode cc pc = .ok (.invokestatic index, 3)) (hf : cells ≤ R.cells ∧ slots ≤ R.slots)
    (kk : W p l e R s m args below meth c H locs cells slots Q (F0 m (pc + 3) ls (.int r :: rest))) : W p l e R s m args below meth c H locs cells slots Q (F0 m pc ls st0) := by
  subst hstack
  have hts := S.2.2.2.2
  exact W.callR (va_Run.run (va_runSN S hM ⟨va_cnB n hts (zG0 w4) rfl hz.1 hz.2 (hN _ w1 rfl) (hts _ w3) hd hR, hts _ w2, trivial⟩ hp rfl hn hsize rfl (lv_room hW) hdg ⟨hf.1, hf.2⟩)) kk
end ZZ
end
section
/-! a world of numbered cells: cell j lies at ad j and holds ct j -/
def zl (n : Nat) (ad : Nat → Nat) (ct : Nat → va_E) : va_W := (List.range n).map (fun j => (ad j, ct j))
theorem zl_get {n : Nat} {ad : Nat → Nat} {ct : Nat → va_E} {j : Nat} (h : j < n) : (zl n ad ct)[j]? = some (ad j, ct j) := by
  simp [zl, List.getElem?_range, h]
theorem zl_get' {n : Nat} {ad : Nat → Nat} {ct : Nat → va_E} {k : Nat} {q : Nat × va_E} (h : (zl n ad ct)[k]? = some q) : k < n ∧ q = (ad k, ct k) := by
  have hk : k < n := by
    have := (List.getElem?_eq_some_iff.mp h).1
    simpa [zl] using this
  rw [zl_get hk] at h
  exact ⟨hk, (Option.some.inj h).symm⟩
theorem zl_set {n : Nat} {ad : Nat → Nat} {ct : Nat → va_E} {j : Nat} {e : va_E} : (zl n ad ct).set j (ad j, e) = zl n ad (va_up ct j e) := by
  apply List.ext_getElem?
  intro i
  by_cases hi : i < n
  · rw [zl_get hi]
    by_cases hij : j = i
    · subst hij
      rw [List.getElem?_set_self (by simpa [zl] using hi), va_up_self]
    · rw [List.getElem?_set_ne hij, zl_get hi, va_up_ne _ _ (Ne.symm hij)]
  · rw [List.getElem?_eq_none (by simp [zl]; omega), List.getElem?_eq_none (by simp [zl]; omega)]
theorem zl_push {n : Nat} {ad : Nat → Nat} {ct : Nat → va_E} {q : Nat} {e : va_E} : zl n ad ct ++ [(q, e)] = zl (n + 1) (va_up ad n q) (va_up ct n e) := by
  unfold zl
  rw [List.range_succ, List.map_append]
  congr 1
  · apply List.map_congr_left
    intro j hj
    have : j ≠ n := Nat.ne_of_lt (List.mem_range.mp hj)
    rw [va_up_ne _ _ this, va_up_ne _ _ this]
  · simp [va_up_self]
/-- the addresses are apart and lie in A -/
def zD (A : Nat → Prop) (n : Nat) (ad : Nat → Nat) : Prop := (∀ i j, i < n → j < n → ad i = ad j → i = j) ∧ ∀ j, j < n → A (ad j)
theorem zD_to {A : Nat → Prop} {n : Nat} {ad : Nat → Nat} (h : zD A n ad) (ct : Nat → va_E) : va_D A (zl n ad ct) := by
  refine ⟨fun i j p q hp hq e => ?_, fun k q hq => ?_⟩
  · obtain ⟨h1, rfl⟩ := zl_get' hp
    obtain ⟨h2, rfl⟩ := zl_get' hq
    exact h.1 i j h1 h2 e
  · obtain ⟨h1, rfl⟩ := zl_get' hq
    exact h.2 k h1
theorem zD_of {A : Nat → Prop} {n : Nat} {ad : Nat → Nat} {ct : Nat → va_E} (h : va_D A (zl n ad ct)) : zD A n ad :=
  ⟨fun i j h1 h2 e => h.1 i j _ _ (zl_get h1) (zl_get h2) e, fun j hj => h.2 j _ (zl_get hj)⟩
theorem zP_at {D : va_G} {cl : List vw_C} {n : Nat} {ad : Nat → Nat} {ct : Nat → va_E} {H : Heap} (h : va_P D cl (zl n ad ct) H) {j : Nat} (hj : j < n) : va_at D cl (ad j, ct j) H := h j _ (zl_get hj)
theorem zP_of {D : va_G} {cl : List vw_C} {n : Nat} {ad : Nat → Nat} {ct : Nat → va_E} {H : Heap} (h : ∀ j, j < n → va_at D cl (ad j, ct j) H) : va_P D cl (zl n ad ct) H := by
  intro k q hq
  obtain ⟨h1, rfl⟩ := zl_get' hq
  exact h k h1
theorem zP_congr {D : va_G} {cl : List vw_C} {n : Nat} {ad : Nat → Nat} {ct ct' : Nat → va_E} {H : Heap} (h : va_P D cl (zl n ad ct) H) (he : ∀ j, j < n → ct' j = ct j) : va_P D cl (zl n ad ct') H :=
  zP_of fun j hj => by rw [he j hj]; exact zP_at h hj
section ZW
variable {p : Program} {l : Launch} {e : Env} {R : Room} {s : State} {m : MethodId} {args : Array Value} {below : List Frame} {meth : Method} {c : Code} {H H0 : Heap} {locs : List Loc} {cells slots pc n : Nat} {ls : Array Slot} {rest : List Value} {cc : ByteArray} {Q : State → Prop} {A : Nat → Prop} {D : va_G} {cl : List vw_C} {tys : List (ClassId × FieldType)} {ad : Nat → Nat} {ct : Nat → va_E}
theorem zz_get (hexec : p.tables.exec = Jvm.exec) (hb : c.code = cc) {own ref C : String} {T : u_T} {N ci index : Nat} {Ts : List Cond} (hts : ∀ w ∈ Ts, w.before args s = true) (hin : ∀ w ∈ u_ws C T N, w ∈ Ts) (hown : s.vm.findClass own = some m.cls) (hK : va_K D cl tys s) (hP : va_P D cl (zl n ad ct) H) {j : Nat} (hj : j < n) {fs : List Value} (he : ct j = .inr (ci, fs)) (hc : cl[ci]? = some (C, T, N)) (k : Nat) (hk : k < N) (hlink : (Cond.fieldLink own index ref (T k).2.1 (T k).2.2.1).before args s = true) (hsame : ∀ x, s.fieldFound? (T k).1 (T k).2.1 (T k).2.2.1 = some x → s.fieldFound? ref (T k).2.1 (T k).2.2.1 = some x) {v : Value} (hv : fs[k]? = some v) (hdg : decode cc pc = .ok (.getfield index, 3))
    (kk : W p l e R s m args below meth c H locs cells slots Q (F0 m (pc + 3) ls (v :: rest))) : W p l e R s m args below meth c H locs cells slots Q (F0 m pc ls (.ref (ad j) :: rest)) :=
  va_get hexec hb hts hin hown hK hP j ((zl_get hj).trans (by rw [he])) hc k hk hlink hsame hv hdg kk
theorem zz_put (hexec : p.tables.exec = Jvm.exec) (hb : c.code = cc) {own ref C : String} {T : u_T} {N ci index : Nat} {Ts : List Cond} (hts : ∀ w ∈ Ts, w.before args s = true) (hin : ∀ w ∈ u_ws C T N, w ∈ Ts) (ty0 : Nat → FieldType) (hty : ∀ k, k < N → parseFieldDescriptor (T k).2.2.1 = some (ty0 k)) (hnm : ∀ a, a < N → ∀ b, b < N → a ≠ b → (T a).2.1 ≠ (T b).2.1) (hown : s.vm.findClass own = some m.cls) (hK : va_K D cl tys s) (hP : va_P D cl (zl n ad ct) H) (hD : zD A n ad) (hS0 : va_S A H0 H locs) {j : Nat} (hj : j < n) {fs : List Value} (he : ct j = .inr (ci, fs)) (hc : cl[ci]? = some (C, T, N)) (k : Nat) (hk : k < N) (hlink : (Cond.fieldLink own index ref (T k).2.1 (T k).2.2.1).before args s = true) (hsame : ∀ x, s.fieldFound? (T k).1 (T k).2.1 (T k).2.2.1 = some x → s.fieldFound? ref (T k).2.1 (T k).2.2.1 = some x) (hfin : (T k).2.2.2 = false) {ty : FieldType} {v : Value} (hd : parseFieldDescriptor (T k).2.2.1 = some ty) (hn : narrow ty v = v) (hfit : fits ty v = true) (hl : k < fs.length)
    (hdg : decode cc pc = .ok (.putfield index, 3)) (kk : ∀ (H1 : Heap) (locs1 : List Loc), va_P D cl (zl n ad (va_up ct j (.inr (ci, fs.set k v)))) H1 → va_S A H0 H1 locs1 → W p l e R s m args below meth c H1 locs1 cells slots Q (F0 m (pc + 3) ls rest)) : W p l e R s m args below meth c H locs cells slots Q (F0 m pc ls (v :: .ref (ad j) :: rest)) :=
  va_put hexec hb hts hin ty0 hty hnm hown hK hP (zD_to hD ct) hS0 j ((zl_get hj).trans (by rw [he])) hc k hk hlink hsame hfin hd hn hfit hl hdg (fun H1 locs1 h1 _ h3 => kk H1 locs1 (by rw [zl_set] at h1; exact h1) h3)
theorem zz_iald (hexec : p.tables.exec = Jvm.exec) (hb : c.code = cc) (hK : va_K D cl tys s) (hP : va_P D cl (zl n ad ct) H) {j : Nat} (hj : j < n) (t0 : Nat) {cA : ClassId} {N : Nat} {f : Nat → Int32} (ha : ct j = .inl (cA, N, .inl f)) (ht : tys[t0]? = some (cA, .int)) {i : Int32} (k : Nat) (hi : i = nI k) (hk : k < N) (hN : N < 2 ^ 31) (hdg : decode cc pc = .ok (.iaload, 1))
    (kk : W p l e R s m args below meth c H locs cells slots Q (F0 m (pc + 1) ls (.int (f k) :: rest))) : W p l e R s m args below meth c H locs cells slots Q (F0 m pc ls (.int i :: .ref (ad j) :: rest)) := by
  subst hi
  refine va_iald hexec hb hK hP j t0 ((zl_get hj).trans (by rw [ha])) ht (vp_in_nI hk hN) hdg ?_
  rw [nI_clamp (by omega)]; exact kk
theorem zz_zald (hexec : p.tables.exec = Jvm.exec) (hb : c.code = cc) (hK : va_K D cl tys s) (hP : va_P D cl (zl n ad ct) H) {j : Nat} (hj : j < n) (t0 : Nat) {cA : ClassId} {N : Nat} {f : Nat → Int32} (ha : ct j = .inl (cA, N, .inl f)) (ht : tys[t0]? = some (cA, .boolean)) {i : Int32} (k : Nat) (hi : i = nI k) (hk : k < N) (hN : N < 2 ^ 31) (hdg : decode cc pc = .ok (.baload, 1))
    (kk : W p l e R s m args below meth c H locs cells slots Q (F0 m (pc + 1) ls (.int (f k) :: rest))) : W p l e R s m args below meth c H locs cells slots Q (F0 m pc ls (.int i :: .ref (ad j) :: rest)) := by
  subst hi
  refine va_zald hexec hb hK hP j t0 ((zl_get hj).trans (by rw [ha])) ht (vp_in_nI hk hN) hdg ?_
  rw [nI_clamp (by omega)]; exact kk
theorem zz_iast (hexec : p.tables.exec = Jvm.exec) (hb : c.code = cc) (hK : va_K D cl tys s) (hP : va_P D cl (zl n ad ct) H) (hD : zD A n ad) (hS : va_S A H0 H locs) {j : Nat} (hj : j < n) (t0 : Nat) {cA : ClassId} {N : Nat} {f : Nat → Int32} (ha : ct j = .inl (cA, N, .inl f)) (ht : tys[t0]? = some (cA, .int)) {i x : Int32} (k : Nat) (hi : i = nI k) (hk : k < N) (hN : N < 2 ^ 31) (hdg : decode cc pc = .ok (.iastore, 1))
    (kk : ∀ (H1 : Heap) (locs1 : List Loc), va_P D cl (zl n ad (va_up ct j (.inl (cA, N, .inl (upd f k x))))) H1 → va_S A H0 H1 locs1 → W p l e R s m args below meth c H1 locs1 cells slots Q (F0 m (pc + 1) ls rest)) : W p l e R s m args below meth c H locs cells slots Q (F0 m pc ls (.int x :: .int i :: .ref (ad j) :: rest)) := by
  subst hi
  refine va_iast hexec hb hK hP (zD_to hD ct) hS j t0 ((zl_get hj).trans (by rw [ha])) ht (vp_in_nI hk hN) hdg (fun H1 locs1 h1 _ h3 => kk H1 locs1 ?_ h3)
  rw [zl_set, nI_clamp (by omega)] at h1; exact h1
theorem zz_zast (hexec : p.tables.exec = Jvm.exec) (hb : c.code = cc) (hK : va_K D cl tys s) (hP : va_P D cl (zl n ad ct) H) (hD : zD A n ad) (hS : va_S A H0 H locs) {j : Nat} (hj : j < n) (t0 : Nat) {cA : ClassId} {N : Nat} {f : Nat → Int32} (ha : ct j = .inl (cA, N, .inl f)) (ht : tys[t0]? = some (cA, .boolean)) {i x : Int32} (k : Nat) (hi : i = nI k) (hk : k < N) (hN : N < 2 ^ 31) (hv : vp_nar .boolean x = x) (hdg : decode cc pc = .ok (.bastore, 1))
    (kk : ∀ (H1 : Heap) (locs1 : List Loc), va_P D cl (zl n ad (va_up ct j (.inl (cA, N, .inl (upd f k x))))) H1 → va_S A H0 H1 locs1 → W p l e R s m args below meth c H1 locs1 cells slots Q (F0 m (pc + 1) ls rest)) : W p l e R s m args below meth c H locs cells slots Q (F0 m pc ls (.int x :: .int i :: .ref (ad j) :: rest)) := by
  subst hi
  refine va_zast hexec hb hK hP (zD_to hD ct) hS j t0 ((zl_get hj).trans (by rw [ha])) ht (vp_in_nI hk hN) hdg (fun H1 locs1 h1 _ h3 => kk H1 locs1 ?_ h3)
  rw [zl_set, nI_clamp (by omega), hv] at h1; exact h1
end ZW
theorem zn_bool {b : Nat} (h : b < 2) : vp_nar .boolean (nI b) = nI b := by
  rcases (show b = 0 ∨ b = 1 by omega) with rfl | rfl <;> decide
end
section
/-! the abstract state: array j at place i; trees in postfix tables; commit and respond over them -/
def zs (ar : Nat → Nat → Nat) (j i v : Nat) : Nat → Nat → Nat := va_up ar j (va_up (ar j) i v)
theorem zs_at (ar : Nat → Nat → Nat) (j i v j' i' : Nat) : zs ar j i v j' i' = if j' = j ∧ i' = i then v else ar j' i' := by
  unfold zs va_up
  by_cases h1 : j' = j
  · subst h1
    by_cases h2 : i' = i <;> simp [h2]
  · simp [h1]
theorem zs_eq (ar : Nat → Nat → Nat) (j i v : Nat) : zs ar j i v j i = v := by rw [zs_at, if_pos ⟨rfl, rfl⟩]
theorem zs_nj (ar : Nat → Nat → Nat) {j j' : Nat} (i v i' : Nat) (h : j' ≠ j) : zs ar j i v j' i' = ar j' i' := by rw [zs_at, if_neg (fun q => h q.1)]
theorem zs_ni (ar : Nat → Nat → Nat) (j : Nat) {i i' : Nat} (v j' : Nat) (h : i' ≠ i) : zs ar j i v j' i' = ar j' i' := by rw [zs_at, if_neg (fun q => h q.2)]
theorem zs_row (ar : Nat → Nat → Nat) {j j' : Nat} (i v : Nat) (h : j' ≠ j) : zs ar j i v j' = ar j' := by
  funext i'; exact zs_nj ar i v i' h
/-- the next state of the drawing, and what it draws -/
def dr (st : Nat) : Nat := (st * 1103515245 + 12345) % 4294967296
def dv (st : Nat) : Nat := st / 256 % 5003
theorem dv_lt (st : Nat) : dv st < 5003 := Nat.mod_lt _ (by decide)
/-- postfix tables: kind 0 a leaf, 1 and, 2 or; lo k: the least place of the tree that ends at k -/
def tOK (kd lo : Nat → Nat) (N : Nat) : Prop := ∀ k, k < N → (kd k = 0 ∧ lo k = k) ∨ ((kd k = 1 ∨ kd k = 2) ∧ 1 ≤ k ∧ 1 ≤ lo (k - 1) ∧ lo k = lo (lo (k - 1) - 1))
theorem tOK_le {kd lo : Nat → Nat} {N : Nat} (h : tOK kd lo N) : ∀ k, k < N → lo k ≤ k := by
  intro k
  induction k using Nat.strongRecOn with
  | ind k ih =>
    intro hk
    rcases h k hk with ⟨_, h1⟩ | ⟨_, h1, h2, h3⟩
    · omega
    · have a := ih (k - 1) (by omega) (by omega)
      have b := ih (lo (k - 1) - 1) (by omega) (by omega)
      omega
/-- the number of leaves below place j -/
def cl (kd : Nat → Nat) : Nat → Nat
  | 0 => 0
  | j + 1 => cl kd j + (if kd j = 0 then 1 else 0)
theorem cl_leaf {kd : Nat → Nat} {j : Nat} (h : kd j = 0) : cl kd (j + 1) = cl kd j + 1 := by simp [cl, h]
theorem cl_join {kd : Nat → Nat} {j : Nat} (h : kd j ≠ 0) : cl kd (j + 1) = cl kd j := by simp [cl, h]
theorem cl_mono {kd : Nat → Nat} {a b : Nat} (h : a ≤ b) : cl kd a ≤ cl kd b := by
  induction b with
  | zero => have : a = 0 := by omega
            subst this; exact Nat.le_refl _
  | succ b ih =>
    by_cases hb : a = b + 1
    · subst hb; exact Nat.le_refl _
    · exact Nat.le_trans (ih (by omega)) (by simp [cl])
theorem cl_congr {kd kd' : Nat → Nat} {n : Nat} (h : ∀ k, k < n → kd' k = kd k) : cl kd' n = cl kd n := by
  induction n with
  | zero => rfl
  | succ n ih =>
    simp only [cl]
    rw [ih (fun k hk => h k (by omega)), h n (by omega)]
/-- a tree of c leaves has 2 c - 1 nodes -/
theorem tOK_seg {kd lo : Nat → Nat} {N : Nat} (h : tOK kd lo N) : ∀ k, k < N → k + 2 + 2 * cl kd (lo k) = lo k + 2 * cl kd (k + 1) := by
  intro k
  induction k using Nat.strongRecOn with
  | ind k ih =>
    intro hk
    rcases h k hk with ⟨h0, h1⟩ | ⟨h0, h1, h2, h3⟩
    · rw [h1, cl_leaf h0]; omega
    · have hle := tOK_le h (k - 1) (by omega)
      have a := ih (k - 1) (by omega) (by omega)
      have b := ih (lo (k - 1) - 1) (by omega) (by omega)
      have hj : cl kd (k + 1) = cl kd k := cl_join (by rcases h0 with h0 | h0 <;> rw [h0] <;> decide)
      rw [h3, hj]
      have e1 : k - 1 + 1 = k := by omega
      have e2 : lo (k - 1) - 1 + 1 = lo (k - 1) := by omega
      rw [e1] at a
      rw [e2] at b
      omega
/-- a leaf's commitment: its own part of commit and simulate -/
def cv (real : Bool) (b y c x : Nat) : Nat := (b ^ x % 10007) * (if real then 1 else y ^ ((5003 - c) % 5003) % 10007) % 10007
def cmL (i : Nat) (real : Bool) (c : Nat) (ar : Nat → Nat → Nat) : Nat → Nat → Nat :=
  let st := dr (ar 0 5)
  let a1 := zs (zs (zs (zs ar 0 5 st) 20 i (dv st)) 15 i (if real then 0 else c)) 16 i (if real then 0 else dv st)
  let a2 := if 0 < ar 11 (2 * i) then zs a1 14 (2 * i) (cv real (ar 11 (2 * i)) (ar 12 (2 * i)) c (dv st)) else a1
  if 0 < ar 11 (2 * i + 1) then zs a2 14 (2 * i + 1) (cv real (ar 11 (2 * i + 1)) (ar 12 (2 * i + 1)) c (dv st)) else a2
def cmO (k : Nat) (lr : Bool) (ar : Nat → Nat → Nat) : Nat → Nat → Nat :=
  zs (zs (zs ar 0 5 (dr (ar 0 5))) 22 k (dv (dr (ar 0 5)))) 21 k (if lr then 1 else 0)
def cm (kd lf rt lv : Nat → Nat) (k : Nat) (real : Bool) (c : Nat) (ar : Nat → Nat → Nat) : Nat → Nat → Nat :=
  if kd k = 0 then cmL (lv k) real c ar
  else if h : lf k < k ∧ rt k < k then
    if kd k = 1 then cm kd lf rt lv (rt k) real c (cm kd lf rt lv (lf k) real c ar)
    else cm kd lf rt lv (rt k) (real && !(real && decide (ar 27 (lf k) = 1))) (if real then dv (dr (ar 0 5)) else (c + 5003 - dv (dr (ar 0 5))) % 5003)
      (cm kd lf rt lv (lf k) (real && decide (ar 27 (lf k) = 1)) (dv (dr (ar 0 5))) (cmO k (real && decide (ar 27 (lf k) = 1)) ar))
  else ar
termination_by k
decreasing_by all_goals first | exact h.1 | exact h.2
theorem cm_leaf {kd lf rt lv : Nat → Nat} {k : Nat} (h0 : kd k = 0) (real : Bool) (c : Nat) (ar : Nat → Nat → Nat) : cm kd lf rt lv k real c ar = cmL (lv k) real c ar := by
  rw [cm, if_pos h0]
theorem cm_and {kd lf rt lv : Nat → Nat} {k : Nat} (h0 : kd k = 1) (hl : lf k < k) (hr : rt k < k) (real : Bool) (c : Nat) (ar : Nat → Nat → Nat) : cm kd lf rt lv k real c ar = cm kd lf rt lv (rt k) real c (cm kd lf rt lv (lf k) real c ar) := by
  rw [cm, if_neg (by rw [h0]; decide), dif_pos ⟨hl, hr⟩, if_pos h0]
theorem cm_or {kd lf rt lv : Nat → Nat} {k : Nat} (h0 : kd k = 2) (hl : lf k < k) (hr : rt k < k) (real : Bool) (c : Nat) (ar : Nat → Nat → Nat) : cm kd lf rt lv k real c ar = cm kd lf rt lv (rt k) (real && !(real && decide (ar 27 (lf k) = 1))) (if real then dv (dr (ar 0 5)) else (c + 5003 - dv (dr (ar 0 5))) % 5003)
      (cm kd lf rt lv (lf k) (real && decide (ar 27 (lf k) = 1)) (dv (dr (ar 0 5))) (cmO k (real && decide (ar 27 (lf k) = 1)) ar)) := by
  rw [cm, if_neg (by rw [h0]; decide), dif_pos ⟨hl, hr⟩, if_neg (by rw [h0]; decide)]
/-- which challenge respond brings to leaf i below node k -/
def wr (kd lf rt lv lr dn : Nat → Nat) (k c i : Nat) : Option Nat :=
  if kd k = 0 then (if lv k = i then some c else none)
  else if h : lf k < k ∧ rt k < k then
    if kd k = 1 then (wr kd lf rt lv lr dn (lf k) c i).or (wr kd lf rt lv lr dn (rt k) c i)
    else if lr k = 1 then wr kd lf rt lv lr dn (lf k) ((c + 5003 - dn k) % 5003) i
    else wr kd lf rt lv lr dn (rt k) ((c + 5003 - dn k) % 5003) i
  else none
termination_by k
decreasing_by all_goals first | exact h.1 | exact h.2
def rsp (w : Nat → Option Nat) (ar : Nat → Nat → Nat) : Nat → Nat → Nat := fun j i => match w i with
  | none => ar j i
  | some x => if j = 15 then x else if j = 16 then (ar 20 i + x * ar 13 i % 5003) % 5003 else ar j i
end
section
/-! the model's world: cell 0 the object, cells 1 to 27 its arrays; the state ar: array j at place i, ar 0 the int fields (top size leaves saved committed state todo) -/
def mlen : Nat → Nat := fun j => match j with
  | 1 => 90 | 2 => 90 | 3 => 90 | 4 => 90 | 5 => 90 | 6 => 7
  | 7 => 15 | 8 => 15 | 9 => 15 | 10 => 15 | 11 => 16 | 12 => 16 | 13 => 8 | 14 => 16 | 15 => 8 | 16 => 8
  | 17 => 16 | 18 => 8 | 19 => 8 | 20 => 8 | 21 => 15 | 22 => 15 | 23 => 15 | 24 => 15 | 25 => 15 | 26 => 15 | 27 => 15
  | _ => 0
def mty : Nat → Nat := fun j => match j with
  | 21 => 1 | 25 => 1 | 27 => 1
  | _ => 0
theorem mlen_lt (j : Nat) : mlen j < 2 ^ 31 := by
  unfold mlen
  split <;> decide
abbrev zty (ca : Nat → ClassId) : List (ClassId × FieldType) := [(ca 0, .int), (ca 1, .boolean), (ca 2, .object R_S), (ca 3, .object R_F)]
def mfs (am : Nat → Nat) (ar : Nat → Nat → Nat) : List Value := [.ref (am 1), .ref (am 2), .ref (am 3), .ref (am 4), .ref (am 5), .ref (am 6), .ref (am 7), .ref (am 8), .ref (am 9), .ref (am 10), .ref (am 11), .ref (am 12), .ref (am 13), .ref (am 14), .ref (am 15), .ref (am 16), .ref (am 17), .ref (am 18), .ref (am 19), .ref (am 20), .ref (am 21), .ref (am 22), .ref (am 23), .ref (am 24), .ref (am 25), .ref (am 26), .ref (am 27), .int (nI (ar 0 0)), .int (nI (ar 0 1)), .int (nI (ar 0 2)), .int (nI (ar 0 3)), .int (nI (ar 0 4)), .int (nI (ar 0 5)), .int (nI (ar 0 6))]
def mct (ca : Nat → ClassId) (am : Nat → Nat) (ar : Nat → Nat → Nat) : Nat → va_E := fun j => match j with
  | 0 => .inr (1, mfs am ar)
  | j + 1 => .inl (ca (mty (j + 1)), mlen (j + 1), .inl (fun i => nI (ar (j + 1) i)))
theorem mct_set (ca : Nat → ClassId) (am : Nat → Nat) (ar : Nat → Nat → Nat) (j k v : Nat) : va_up (mct ca am ar) (j + 1) (.inl (ca (mty (j + 1)), mlen (j + 1), .inl (upd (fun i => nI (ar (j + 1) i)) k (nI v)))) = mct ca am (zs ar (j + 1) k v) := by
  funext q
  by_cases h : q = j + 1
  · subst h
    rw [va_up_self]
    show Sum.inl (ca (mty (j + 1)), mlen (j + 1), Sum.inl _) = Sum.inl (ca (mty (j + 1)), mlen (j + 1), Sum.inl _)
    congr 4
    funext i
    unfold upd
    by_cases hi : i = k
    · subst hi; rw [if_pos rfl, zs_eq]
    · rw [if_neg hi, zs_ni _ _ _ _ hi]
  · rw [va_up_ne _ _ h]
    cases q with
    | zero =>
      show Sum.inr (1, mfs am ar) = Sum.inr (1, mfs am (zs ar (j + 1) k v))
      unfold mfs
      rw [zs_row ar k v (show 0 ≠ j + 1 by omega)]
    | succ q =>
      show Sum.inl (ca (mty (q + 1)), mlen (q + 1), Sum.inl _) = Sum.inl (ca (mty (q + 1)), mlen (q + 1), Sum.inl _)
      rw [zs_row ar k v h]
theorem mct_setF (ca : Nat → ClassId) (am : Nat → Nat) (ar : Nat → Nat → Nat) {i : Nat} (hi : i < 7) (v : Nat) : va_up (mct ca am ar) 0 (.inr (1, (mfs am ar).set (27 + i) (.int (nI v)))) = mct ca am (zs ar 0 i v) := by
  funext q
  cases q with
  | zero =>
    rw [va_up_self]
    show Sum.inr (1, _) = Sum.inr (1, mfs am (zs ar 0 i v))
    rcases (show i = 0 ∨ i = 1 ∨ i = 2 ∨ i = 3 ∨ i = 4 ∨ i = 5 ∨ i = 6 by omega) with rfl | rfl | rfl | rfl | rfl | rfl | rfl <;> rfl
  | succ q =>
    rw [va_up_ne _ _ (by omega)]
    show Sum.inl (ca (mty (q + 1)), mlen (q + 1), Sum.inl _) = Sum.inl (ca (mty (q + 1)), mlen (q + 1), Sum.inl _)
    rw [zs_row ar i v (show q + 1 ≠ 0 by omega)]
/-- what the model's methods take and give: the classes are known, the cells hold ar -/
def mw (D : va_G) (ca : Nat → ClassId) (am : Nat → Nat) (ar : Nat → Nat → Nat) (U : State) : Prop := va_K D zC (zty ca) U ∧ va_P D zC (zl 28 am (mct ca am ar)) U.heap
def mA (am : Nat → Nat) : Nat → Prop := fun q => ∃ j, j < 28 ∧ am j = q
def mI (am : Nat → Nat) : Prop := ∀ i j, i < 28 → j < 28 → am i = am j → i = j
theorem mI_D {am : Nat → Nat} (h : mI am) : zD (mA am) 28 am := ⟨h, fun j hj => ⟨j, hj, rfl⟩⟩
theorem T_M_own (k : Nat) : (T_M k).1 = "SigmaDeskModel" := by
  unfold T_M
  split <;> rfl
theorem zn_fitb {v : Nat} (h : v < 2) : fits .boolean (.int (nI v)) = true := by
  rcases (show v = 0 ∨ v = 1 by omega) with rfl | rfl <;> rfl
theorem zn_narb {v : Nat} (h : v < 2) : narrow .boolean (.int (nI v)) = .int (nI v) := by
  rcases (show v = 0 ∨ v = 1 by omega) with rfl | rfl <;> rfl
section MW
variable {p : Program} {l : Launch} {e : Env} {R : Room} {s : State} {m : MethodId} {args : Array Value} {below : List Frame} {meth : Method} {c : Code} {H H0 : Heap} {locs : List Loc} {cells slots pc nL : Nat} {ls : Array Slot} {rest st0 : List Value} {cc : ByteArray} {Q : State → Prop} {A : Nat → Prop} {D : va_G} {ca : Nat → ClassId} {am : Nat → Nat} {ar : Nat → Nat → Nat} {own : String}
theorem mm_get (hx : p.tables.exec = Jvm.exec) (hb : c.code = cc) (hts : ∀ w ∈ zT, w.before args s = true) (hown : s.vm.findClass R_M = some m.cls) (hK : va_K D zC (zty ca) s) (hP : va_P D zC (zl 28 am (mct ca am ar)) H) {index : Nat} (k : Nat) (hk : k < 34) (w : Cond.fieldLink R_M index "SigmaDeskModel" (T_M k).2.1 (T_M k).2.2.1 ∈ zT) {v : Value} (hv : (mfs am ar)[k]? = some v) (hdg : decode cc pc = .ok (.getfield index, 3))
    (kk : W p l e R s m args below meth c H locs cells slots Q (F0 m (pc + 3) ls (v :: rest))) : W p l e R s m args below meth c H locs cells slots Q (F0 m pc ls (.ref (am 0) :: rest)) :=
  zz_get hx hb hts in_M hown hK hP (j := 0) (by decide) rfl rfl k hk (hts _ w) (fun _ h => by rw [T_M_own] at h; exact h) hv hdg kk
theorem mm_put (hx : p.tables.exec = Jvm.exec) (hb : c.code = cc) (hts : ∀ w ∈ zT, w.before args s = true) (hown : s.vm.findClass R_M = some m.cls) (hK : va_K D zC (zty ca) s) (hP : va_P D zC (zl 28 am (mct ca am ar)) H) (hD : zD A 28 am) (hS : va_S A H0 H locs) {index : Nat} (i : Nat) (hi : i < 7) (w : Cond.fieldLink R_M index "SigmaDeskModel" (T_M (27 + i)).2.1 (T_M (27 + i)).2.2.1 ∈ zT) {x : Int32} (v : Nat) (hv : x = nI v) (hn : narrow (ft_M (27 + i)) (.int (nI v)) = .int (nI v)) (hf : fits (ft_M (27 + i)) (.int (nI v)) = true) (hdg : decode cc pc = .ok (.putfield index, 3))
    (kk : ∀ (H1 : Heap) (locs1 : List Loc), va_P D zC (zl 28 am (mct ca am (zs ar 0 i v))) H1 → va_S A H0 H1 locs1 → W p l e R s m args below meth c H1 locs1 cells slots Q (F0 m (pc + 3) ls rest)) : W p l e R s m args below meth c H locs cells slots Q (F0 m pc ls (.int x :: .ref (am 0) :: rest)) := by
  subst hv
  refine zz_put hx hb hts in_M ft_M ft_M_ok fn_M hown hK hP hD hS (j := 0) (by decide) rfl rfl (27 + i) (by omega) (hts _ w) (fun _ h => by rw [T_M_own] at h; exact h) ?_ (ft_M_ok _ (by omega)) hn hf (show 27 + i < 34 by omega) hdg (fun H1 locs1 h1 h2 => kk H1 locs1 ?_ h2)
  · rcases (show i = 0 ∨ i = 1 ∨ i = 2 ∨ i = 3 ∨ i = 4 ∨ i = 5 ∨ i = 6 by omega) with rfl | rfl | rfl | rfl | rfl | rfl | rfl <;> rfl
  · rw [mct_setF ca am ar hi v] at h1; exact h1
theorem mm_ald (hx : p.tables.exec = Jvm.exec) (hb : c.code = cc) (hK : va_K D zC (zty ca) s) (hP : va_P D zC (zl 28 am (mct ca am ar)) H) (j : Nat) (hj : j + 1 < 28) (hty : mty (j + 1) = 0) {i : Int32} (k : Nat) (hi : i = nI k) (hk : k < mlen (j + 1)) (x : Nat) (hv : ar (j + 1) k = x) (hdg : decode cc pc = .ok (.iaload, 1))
    (kk : W p l e R s m args below meth c H locs cells slots Q (F0 m (pc + 1) ls (.int (nI x) :: rest))) : W p l e R s m args below meth c H locs cells slots Q (F0 m pc ls (.int i :: .ref (am (j + 1)) :: rest)) := by
  subst hv
  exact zz_iald hx hb hK hP hj 0 (cA := ca (mty (j + 1))) (N := mlen (j + 1)) (f := fun i => nI (ar (j + 1) i)) rfl (by rw [hty]; rfl) k hi hk (mlen_lt _) hdg kk
theorem mm_zald (hx : p.tables.exec = Jvm.exec) (hb : c.code = cc) (hK : va_K D zC (zty ca) s) (hP : va_P D zC (zl 28 am (mct ca am ar)) H) (j : Nat) (hj : j + 1 < 28) (hty : mty (j + 1) = 1) {i : Int32} (k : Nat) (hi : i = nI k) (hk : k < mlen (j + 1)) (x : Nat) (hv : ar (j + 1) k = x) (hdg : decode cc pc = .ok (.baload, 1))
    (kk : W p l e R s m args below meth c H locs cells slots Q (F0 m (pc + 1) ls (.int (nI x) :: rest))) : W p l e R s m args below meth c H locs cells slots Q (F0 m pc ls (.int i :: .ref (am (j + 1)) :: rest)) := by
  subst hv
  exact zz_zald hx hb hK hP hj 1 (cA := ca (mty (j + 1))) (N := mlen (j + 1)) (f := fun i => nI (ar (j + 1) i)) rfl (by rw [hty]; rfl) k hi hk (mlen_lt _) hdg kk
theorem mm_ast (hx : p.tables.exec = Jvm.exec) (hb : c.code = cc) (hK : va_K D zC (zty ca) s) (hP : va_P D zC (zl 28 am (mct ca am ar)) H) (hD : zD A 28 am) (hS : va_S A H0 H locs) (j : Nat) (hj : j + 1 < 28) (hty : mty (j + 1) = 0) {i x : Int32} (k : Nat) (hi : i = nI k) (hk : k < mlen (j + 1)) (v : Nat) (hv : x = nI v) (hdg : decode cc pc = .ok (.iastore, 1))
    (kk : ∀ (H1 : Heap) (locs1 : List Loc), va_P D zC (zl 28 am (mct ca am (zs ar (j + 1) k v))) H1 → va_S A H0 H1 locs1 → W p l e R s m args below meth c H1 locs1 cells slots Q (F0 m (pc + 1) ls rest)) : W p l e R s m args below meth c H locs cells slots Q (F0 m pc ls (.int x :: .int i :: .ref (am (j + 1)) :: rest)) := by
  subst hv
  exact zz_iast hx hb hK hP hD hS hj 0 (cA := ca (mty (j + 1))) (N := mlen (j + 1)) (f := fun i => nI (ar (j + 1) i)) rfl (by rw [hty]; rfl) k hi hk (mlen_lt _) hdg (fun H1 locs1 h1 h2 => kk H1 locs1 (by rw [mct_set] at h1; exact h1) h2)
theorem mm_zast (hx : p.tables.exec = Jvm.exec) (hb : c.code = cc) (hK : va_K D zC (zty ca) s) (hP : va_P D zC (zl 28 am (mct ca am ar)) H) (hD : zD A 28 am) (hS : va_S A H0 H locs) (j : Nat) (hj : j + 1 < 28) (hty : mty (j + 1) = 1) {i x : Int32} (k : Nat) (hi : i = nI k) (hk : k < mlen (j + 1)) (v : Nat) (hv : x = nI v) (hv2 : v < 2) (hdg : decode cc pc = .ok (.bastore, 1))
    (kk : ∀ (H1 : Heap) (locs1 : List Loc), va_P D zC (zl 28 am (mct ca am (zs ar (j + 1) k v))) H1 → va_S A H0 H1 locs1 → W p l e R s m args below meth c H1 locs1 cells slots Q (F0 m (pc + 1) ls rest)) : W p l e R s m args below meth c H locs cells slots Q (F0 m pc ls (.int x :: .int i :: .ref (am (j + 1)) :: rest)) := by
  subst hv
  exact zz_zast hx hb hK hP hD hS hj 1 (cA := ca (mty (j + 1))) (N := mlen (j + 1)) (f := fun i => nI (ar (j + 1) i)) rfl (by rw [hty]; rfl) k hi hk (mlen_lt _) (zn_bool hv2) hdg (fun H1 locs1 h1 h2 => kk H1 locs1 (by rw [mct_set] at h1; exact h1) h2)
/-- a call on the model: its start -/
theorem mm_pre {As : List Value} (hK : va_K D zC (zty ca) s) (hP : va_P D zC (zl 28 am (mct ca am ar)) H) : PreV s H R_M (am 0) (va_Pc (.ref (am 0) :: As) (mw D ca am ar)) As := by
  refine ⟨fun a U g mk q => ⟨q.1, va_K.moved (u := U) (U := U.calling g mk a) (Vm.Alike.refl U.vm) q.2.1, q.2.2⟩, ?_, fun U hU hW => ⟨rfl, va_K.moved hW.alike hK, by rw [hU]; exact hP⟩⟩
  exact va_recv hK hP (show zC[1]? = some (R_M, T_M, 34) from rfl) (zl_get (j := 0) (by decide))
/-- a method of the model that answers a number and changes the state by post -/
theorem mm_ci {index maxL n : Nat} {y : MethodName} {bytes : ByteArray} {ret : Option FieldType} {rm : Room} {As : List Value} {post : Int32 → (Nat → Nat → Nat) → Prop}
    (S : CallFix p m c cc nL s args zT own) (hM : Met l y (Cond.code y bytes maxL ret :: zT) rm (va_Pc (.ref (am 0) :: As) (mw D ca am ar)) (va_Qi post (mw D ca am) (mA am)) 0 0 (mA am))
    (w1 : Cond.methodLink own index y ∈ zT) (w2 : Cond.instanceMethod y ∈ zT) (w5 : Cond.selects R_M y y ∈ zT) (w3 : Cond.initialized y.cls ∈ zT) (w4 : Cond.code y bytes maxL ret ∈ zT)
    (hd : y.cls ≠ "java/lang/invoke/MethodHandle" ∧ y.cls ≠ "java/lang/invoke/VarHandle" ∧ (parseMethodDescriptor y.desc).map (fun d => d.parameters.length) = some n)
    (hz : rm.cells = 0 ∧ rm.slots = 0) (hR : rm.frames + 1 ≤ R.frames ∧ 8 + (maxL + 11) + rm.locals ≤ R.locals) (hK : va_K D zC (zty ca) s) (hP : va_P D zC (zl 28 am (mct ca am ar)) H) (hS : va_S A H0 H locs) (hA : ∀ q, mA am q → A q) (hn : As.length = n) (hsize : ls.size = nL)
    (hstack : st0 = As.reverse ++ .ref (am 0) :: rest) (hW : (rest.map fun v => v.category).sum ≤ 8) (hdg : decode cc pc = .ok (.invokevirtual index, 3)) (hf : cells ≤ R.cells ∧ slots ≤ R.slots)
    (kk : ∀ (r : Int32) (ar1 : Nat → Nat → Nat) (H1 : Heap) (locs1 : List Loc), post r ar1 → va_P D zC (zl 28 am (mct ca am ar1)) H1 → va_S A H0 H1 locs1 → W p l e R s m args below meth c H1 locs1 cells slots Q (F0 m (pc + 3) ls (.int r :: rest))) : W p l e R s m args below meth c H locs cells slots Q (F0 m pc ls st0) := by
  subst hstack
  exact va_calli (va_runV S hM ⟨zz_cb S.2.2.2.2 w1 w3 w4 hd hz hR, S.2.2.2.2 _ w2, S.2.2.2.2 _ w5⟩ (mm_pre hK hP) rfl hn hsize rfl (lv_room hW) hdg ⟨hf.1, hf.2⟩) hS (fun q _ h => hA q h) hA (fun r u t H1 locs1 ht hvm hpost hB _ _ hS1 => kk r u H1 locs1 hpost (by rw [← ht]; exact hB.2) hS1)
/-- one that answers nothing -/
theorem mm_cv {index maxL n : Nat} {y : MethodName} {bytes : ByteArray} {ret : Option FieldType} {rm : Room} {As : List Value} {post : (Nat → Nat → Nat) → Prop}
    (S : CallFix p m c cc nL s args zT own) (hM : Met l y (Cond.code y bytes maxL ret :: zT) rm (va_Pc (.ref (am 0) :: As) (mw D ca am ar)) (va_Qv post (mw D ca am) (mA am)) 0 0 (mA am))
    (w1 : Cond.methodLink own index y ∈ zT) (w2 : Cond.instanceMethod y ∈ zT) (w5 : Cond.selects R_M y y ∈ zT) (w3 : Cond.initialized y.cls ∈ zT) (w4 : Cond.code y bytes maxL ret ∈ zT)
    (hd : y.cls ≠ "java/lang/invoke/MethodHandle" ∧ y.cls ≠ "java/lang/invoke/VarHandle" ∧ (parseMethodDescriptor y.desc).map (fun d => d.parameters.length) = some n)
    (hz : rm.cells = 0 ∧ rm.slots = 0) (hR : rm.frames + 1 ≤ R.frames ∧ 8 + (maxL + 11) + rm.locals ≤ R.locals) (hK : va_K D zC (zty ca) s) (hP : va_P D zC (zl 28 am (mct ca am ar)) H) (hS : va_S A H0 H locs) (hA : ∀ q, mA am q → A q) (hn : As.length = n) (hsize : ls.size = nL)
    (hstack : st0 = As.reverse ++ .ref (am 0) :: rest) (hW : (rest.map fun v => v.category).sum ≤ 8) (hdg : decode cc pc = .ok (.invokevirtual index, 3)) (hf : cells ≤ R.cells ∧ slots ≤ R.slots)
    (kk : ∀ (ar1 : Nat → Nat → Nat) (H1 : Heap) (locs1 : List Loc), post ar1 → va_P D zC (zl 28 am (mct ca am ar1)) H1 → va_S A H0 H1 locs1 → W p l e R s m args below meth c H1 locs1 cells slots Q (F0 m (pc + 3) ls rest)) : W p l e R s m args below meth c H locs cells slots Q (F0 m pc ls st0) := by
  subst hstack
  exact va_callv (va_runV S hM ⟨zz_cb S.2.2.2.2 w1 w3 w4 hd hz hR, S.2.2.2.2 _ w2, S.2.2.2.2 _ w5⟩ (mm_pre hK hP) rfl hn hsize rfl (lv_room hW) hdg ⟨hf.1, hf.2⟩) hS (fun q _ h => hA q h) hA (fun u t H1 locs1 ht hvm hpost hB _ _ hS1 => kk u H1 locs1 hpost (by rw [← ht]; exact hB.2) hS1)
end MW
end
section
theorem d_D_raise_0 : decode c_D_raise 0 = .ok (.iconst 1, 1) := by decide +kernel
theorem d_D_raise_1 : decode c_D_raise 1 = .ok (.istore_n 3, 1) := by decide +kernel
theorem d_D_raise_2 : decode c_D_raise 2 = .ok (.bipush 12, 2) := by decide +kernel
theorem d_D_raise_4 : decode c_D_raise 4 = .ok (.istore 4, 2) := by decide +kernel
theorem d_D_raise_6 : decode c_D_raise 6 = .ok (.iload 4, 2) := by decide +kernel
theorem d_D_raise_8 : decode c_D_raise 8 = .ok (.ifCond .lt 31, 3) := by decide +kernel
theorem d_D_raise_11 : decode c_D_raise 11 = .ok (.iload_n 3, 1) := by decide +kernel
theorem d_D_raise_12 : decode c_D_raise 12 = .ok (.iload_n 3, 1) := by decide +kernel
theorem d_D_raise_13 : decode c_D_raise 13 = .ok (.imul, 1) := by decide +kernel
theorem d_D_raise_14 : decode c_D_raise 14 = .ok (.iload_n 2, 1) := by decide +kernel
theorem d_D_raise_15 : decode c_D_raise 15 = .ok (.irem, 1) := by decide +kernel
theorem d_D_raise_16 : decode c_D_raise 16 = .ok (.istore_n 3, 1) := by decide +kernel
theorem d_D_raise_17 : decode c_D_raise 17 = .ok (.iload_n 1, 1) := by decide +kernel
theorem d_D_raise_18 : decode c_D_raise 18 = .ok (.iload 4, 2) := by decide +kernel
theorem d_D_raise_20 : decode c_D_raise 20 = .ok (.ishr, 1) := by decide +kernel
theorem d_D_raise_21 : decode c_D_raise 21 = .ok (.iconst 1, 1) := by decide +kernel
theorem d_D_raise_22 : decode c_D_raise 22 = .ok (.iand, 1) := by decide +kernel
theorem d_D_raise_23 : decode c_D_raise 23 = .ok (.iconst 1, 1) := by decide +kernel
theorem d_D_raise_24 : decode c_D_raise 24 = .ok (.if_icmp .ne 9, 3) := by decide +kernel
theorem d_D_raise_27 : decode c_D_raise 27 = .ok (.iload_n 3, 1) := by decide +kernel
theorem d_D_raise_28 : decode c_D_raise 28 = .ok (.iload_n 0, 1) := by decide +kernel
theorem d_D_raise_29 : decode c_D_raise 29 = .ok (.imul, 1) := by decide +kernel
theorem d_D_raise_30 : decode c_D_raise 30 = .ok (.iload_n 2, 1) := by decide +kernel
theorem d_D_raise_31 : decode c_D_raise 31 = .ok (.irem, 1) := by decide +kernel
theorem d_D_raise_32 : decode c_D_raise 32 = .ok (.istore_n 3, 1) := by decide +kernel
theorem d_D_raise_33 : decode c_D_raise 33 = .ok (.iinc 4 (-1), 3) := by decide +kernel
theorem d_D_raise_36 : decode c_D_raise 36 = .ok (.goto (-30), 3) := by decide +kernel
theorem d_D_raise_39 : decode c_D_raise 39 = .ok (.iload_n 3, 1) := by decide +kernel
theorem d_D_raise_40 : decode c_D_raise 40 = .ok (.ireturn, 1) := by decide +kernel

section DR
variable {p : Program} {l : Launch} {e : Env} {R : Room} {s : State} {m : MethodId} {args : Array Value} {below : List Frame} {meth : Method} {c : Code} {H H0 : Heap} {locs : List Loc} {cells slots : Nat} {Q : State → Prop} {A : Nat → Prop}
set_option maxHeartbeats 4000000 in
set_option maxRecDepth 100000 in
theorem raise_loop (hx : p.tables.exec = Jvm.exec) (hb : c.code = c_D_raise) {b e0 m0 : Nat} (hb0 : b < m0) (hm1 : 1 < m0) (hm : m0 ≤ 10007) (he0 : e0 < 8192) (kk : ∀ ls : Array Slot, lv_has ls 5 [(3, .int (nI (b ^ e0 % m0)))] → W p l e R s m args below meth c H locs cells slots Q (F0 m 39 ls [])) : ∀ (j : Nat), j ≤ 13 → ∀ ls : Array Slot, lv_has ls 5 [(4, .int (nI j - 1)), (3, .int (nI (b ^ (e0 / 2 ^ j) % m0))), (0, .int (nI b)), (1, .int (nI e0)), (2, .int (nI m0))] → W p l e R s m args below meth c H locs cells slots Q (F0 m 6 ls []) := by
  intro j
  induction j with
  | zero =>
    intro _ ls hl
    refine lv_iload hx hb d_D_raise_6 (lv_at hl 0 rfl) ?_
    refine lv_if_lt (tgt := 39) hx hb d_D_raise_8 rfl (fun h8 => ?_) (fun h8 => absurd (by decide) h8)
    have hl := lv_sub (l' := [(3, .int (nI (b ^ (e0 / 2 ^ 0) % m0)))]) hl [1] rfl
    rw [Nat.pow_zero, Nat.div_one] at hl
    exact kk ls hl
  | succ j ih =>
    intro hj ls hl
    rw [nI_pred] at hl
    have hm0 : 0 < m0 := by omega
    have hx0 : b ^ (e0 / 2 ^ (j + 1)) % m0 < m0 := Nat.mod_lt _ hm0
    refine lv_iload hx hb d_D_raise_6 (lv_at hl 0 rfl) ?_
    refine lv_if_lt (tgt := 39) hx hb d_D_raise_8 rfl (fun h8 => absurd h8 (nI_pos (by omega))) (fun h8 => ?_)
    refine lv_iload_n hx hb d_D_raise_11 rfl (lv_at hl 1 rfl) ?_
    refine lv_iload_n hx hb d_D_raise_12 rfl (lv_at hl 1 rfl) ?_
    refine lv_imul hx hb d_D_raise_13 ?_
    refine lv_iload_n hx hb d_D_raise_14 rfl (lv_at hl 4 rfl) ?_
    refine lv_irem hx hb d_D_raise_15 (nI_ne0 hm0 (by omega)) ?_
    refine zz_as (y := nI (b ^ (2 * (e0 / 2 ^ (j + 1))) % m0)) ((zn_mulrem (zn_prod hx0 hx0 hm) hm0 (by omega)).trans (congrArg nI (zp_sq ..))) ?_
    refine lv_istore_n (lv' := [(3, .int (nI (b ^ (2 * (e0 / 2 ^ (j + 1))) % m0))), (4, .int (nI j)), (0, .int (nI b)), (1, .int (nI e0)), (2, .int (nI m0))]) hx hb d_D_raise_16 rfl hl (by decide) rfl (fun ls hl => ?_)
    refine lv_iload_n hx hb d_D_raise_17 rfl (lv_at hl 3 rfl) ?_
    refine lv_iload hx hb d_D_raise_18 (lv_at hl 1 rfl) ?_
    refine lv_ishr hx hb d_D_raise_20 ?_
    refine lv_iconst (v := 1) hx hb d_D_raise_21 rfl ?_
    refine lv_iand hx hb d_D_raise_22 ?_
    refine zz_as (y := nI (e0 / 2 ^ j % 2)) (zn_bit he0 (by omega)) ?_
    refine lv_iconst (v := 1) hx hb d_D_raise_23 rfl ?_
    refine lv_icmp_ne (tgt := 33) hx hb d_D_raise_24 rfl (fun h24 => ?_) (fun h24 => ?_)
    · skip
      have hbit : e0 / 2 ^ j % 2 = 0 := by
        rcases Nat.mod_two_eq_zero_or_one (e0 / 2 ^ j) with q | q
        · exact q
        · exact absurd (show nI (e0 / 2 ^ j % 2) = 1 by rw [q]; rfl) h24
      rw [zp_bit0 hbit] at hl
      refine lv_iinc (k := 1) (v := (nI j) + (-1)) (lv' := [(4, .int ((nI j) + (-1))), (3, .int (nI (b ^ (e0 / 2 ^ j) % m0))), (0, .int (nI b)), (1, .int (nI e0)), (2, .int (nI m0))]) hx hb d_D_raise_33 hl rfl rfl (by decide) rfl (fun ls hl => ?_)
      rw [zn_dec] at hl
      refine lv_goto (tgt := 6) hx hb d_D_raise_36 rfl ?_
      have hl := lv_sub (l' := [(4, .int (nI j - 1)), (3, .int (nI (b ^ (e0 / 2 ^ j) % m0))), (0, .int (nI b)), (1, .int (nI e0)), (2, .int (nI m0))]) hl [0, 1, 2, 3, 4] rfl
      exact ih (by omega) ls hl
    · skip
      have hbit : e0 / 2 ^ j % 2 = 1 := by
        rcases Nat.mod_two_eq_zero_or_one (e0 / 2 ^ j) with q | q
        · rw [q] at h24; exact absurd h24 (by decide)
        · exact q
      refine lv_iload_n hx hb d_D_raise_27 rfl (lv_at hl 0 rfl) ?_
      refine lv_iload_n hx hb d_D_raise_28 rfl (lv_at hl 2 rfl) ?_
      refine lv_imul hx hb d_D_raise_29 ?_
      refine lv_iload_n hx hb d_D_raise_30 rfl (lv_at hl 4 rfl) ?_
      refine lv_irem hx hb d_D_raise_31 (nI_ne0 hm0 (by omega)) ?_
      refine zz_as (y := nI (b ^ (2 * (e0 / 2 ^ (j + 1)) + 1) % m0)) ((zn_mulrem (zn_prod (Nat.mod_lt _ hm0) hb0 hm) hm0 (by omega)).trans (congrArg nI (zp_mul ..))) ?_
      refine lv_istore_n (lv' := [(3, .int (nI (b ^ (2 * (e0 / 2 ^ (j + 1)) + 1) % m0))), (4, .int (nI j)), (0, .int (nI b)), (1, .int (nI e0)), (2, .int (nI m0))]) hx hb d_D_raise_32 rfl hl (by decide) rfl (fun ls hl => ?_)
      rw [zp_bit1 hbit] at hl
      refine lv_iinc (k := 1) (v := (nI j) + (-1)) (lv' := [(4, .int ((nI j) + (-1))), (3, .int (nI (b ^ (e0 / 2 ^ j) % m0))), (0, .int (nI b)), (1, .int (nI e0)), (2, .int (nI m0))]) hx hb d_D_raise_33 hl rfl rfl (by decide) rfl (fun ls hl => ?_)
      rw [zn_dec] at hl
      refine lv_goto (tgt := 6) hx hb d_D_raise_36 rfl ?_
      have hl := lv_sub (l' := [(4, .int (nI j - 1)), (3, .int (nI (b ^ (e0 / 2 ^ j) % m0))), (0, .int (nI b)), (1, .int (nI e0)), (2, .int (nI m0))]) hl [0, 1, 2, 3, 4] rfl
      exact ih (by omega) ls hl
end DR

set_option maxHeartbeats 4000000 in
set_option maxRecDepth 100000 in
/-- raise(b, e, m) is b to the e, modulo m -/
theorem k_raise (l : Launch) (b e0 m0 : Nat) (hb0 : b < m0) (hm1 : 1 < m0) (hm : m0 ≤ 10007) (he0 : e0 < 8192) : Met l y_D_raise (Cond.code y_D_raise c_D_raise 5 (some .int) :: zT) ({ frames := 1, cells := 0, slots := 0, locals := 40 }) (fun v _ => v = ([.int (nI b), .int (nI e0), .int (nI m0)] : List Value).toArray) (QcRead (nI (b ^ e0 % m0))) 0 0 (fun _ => False) := by
  refine Met.ofW (cc := c_D_raise) (maxL := 5) (ret := (some .int)) (by decide) rfl ?_
  intro p e s m args below meth c s₁ B hml hv
  subst hv
  have hx := B.exec
  have hb := B.bytes
  have hr := B.returns
  have hts0 := atoms_spec (ws := Cond.code y_D_raise c_D_raise 5 (some .int) :: zT) B.pre
  have hts := fun w h => hts0 w (List.mem_cons_of_mem _ h)
  have hown : s.vm.findClass R_D = some m.cls := findClass_of_methodNamed B.named
  have hlocks := B.notSynchronized
  have hl := lv_entry ([.int (nI b), .int (nI e0), .int (nI m0)]) (n := 5) (Nat.le_of_ble_eq_true rfl)
  rw [lg_entry_eq]
  generalize (lg_sl ([.int (nI b), .int (nI e0), .int (nI m0)]) ++ List.replicate (5 - (lg_sl ([.int (nI b), .int (nI e0), .int (nI m0)])).length) Slot.unset).toArray = ls at hl ⊢
  have hl : lv_has ls 5 [(0, .int (nI b)), (1, .int (nI e0)), (2, .int (nI m0))] := hl
  refine lv_iconst (v := 1) hx hb d_D_raise_0 rfl ?_
  refine lv_istore_n (lv' := [(3, .int 1), (0, .int (nI b)), (1, .int (nI e0)), (2, .int (nI m0))]) hx hb d_D_raise_1 rfl hl (by decide) rfl (fun ls hl => ?_)
  refine lv_bipush (v := 12) hx hb d_D_raise_2 rfl ?_
  refine lv_istore (lv' := [(4, .int 12), (3, .int 1), (0, .int (nI b)), (1, .int (nI e0)), (2, .int (nI m0))]) hx hb d_D_raise_4 hl (by decide) rfl (fun ls hl => ?_)
  have hl : lv_has ls 5 [(4, .int 12), (3, .int 1), (0, .int (nI b)), (1, .int (nI e0)), (2, .int (nI m0))] := hl
  have e1 : (1 : Int32) = nI (b ^ (e0 / 2 ^ 13) % m0) := by rw [Nat.div_eq_of_lt (by omega), Nat.pow_zero, Nat.mod_eq_of_lt hm1]; rfl
  have e2 : (12 : Int32) = nI 13 - 1 := by decide
  rw [e1, e2] at hl
  refine raise_loop hx hb hb0 hm1 hm he0 (fun ls hl => ?_) 13 (Nat.le_refl _) ls hl
  refine lv_iload_n hx hb d_D_raise_39 rfl (lv_at hl 0 rfl) ?_
  exact W.iret hx hb hr (fun t ht hW => ⟨rfl, ht⟩) (fun q h => absurd h List.not_mem_nil) d_D_raise_40
end
section
/-! the desk's static methods -/
theorem el_f1 {n : Nat} (hn : n < 2 ^ 32) (h : nI n < 1) : el n = false := by
  have h1 := (zn_lt (b := 1) hn (by decide)).mp h
  unfold el
  rcases h1 with h1 | h1
  · rw [decide_eq_false (by omega), Bool.false_and]
  · rw [decide_eq_false (show ¬ n < 10007 by omega), Bool.false_and, Bool.and_false]
theorem el_f2 {n : Nat} (hn : n < 2 ^ 32) (h : 10007 ≤ nI n) : el n = false := by
  have h1 := (zn_le (b := 10007) hn (by decide)).mp h
  unfold el
  rw [decide_eq_false (show ¬ n < 10007 by omega), Bool.false_and, Bool.and_false]
theorem el_in {n : Nat} (hn : n < 2 ^ 32) (h1 : ¬ nI n < 1) (h2 : ¬ 10007 ≤ nI n) : 1 ≤ n ∧ n < 10007 := by
  have a := mt (zn_lt (b := 1) hn (by decide)).mpr h1
  have b := mt (zn_le (b := 10007) hn (by decide)).mpr h2
  omega
theorem el_f3 {n : Nat} (h : ¬ nI (n ^ 5003 % 10007) = 1) : el n = false := by
  unfold el
  rw [decide_eq_false (show ¬ n ^ 5003 % 10007 = 1 from fun q => h (by rw [q]; rfl)), Bool.and_false, Bool.and_false]
theorem el_t {n : Nat} (hr : 1 ≤ n ∧ n < 10007) (h : nI (n ^ 5003 % 10007) = 1) : el n = true := by
  have h2 : n ^ 5003 % 10007 < 10007 := Nat.mod_lt _ (by decide)
  have h1 : n ^ 5003 % 10007 = 1 := (zn_inj (Nat.lt_trans h2 (by decide)) (by decide)).mp (h.trans (show (1 : Int32) = nI 1 from rfl))
  unfold el
  rw [decide_eq_true hr.1, decide_eq_true hr.2, decide_eq_true h1]; rfl
theorem el_is {n : Nat} (h : el n = true) : 1 ≤ n ∧ n < 10007 ∧ n ^ 5003 % 10007 = 1 := by
  unfold el at h
  simp only [Bool.and_eq_true, decide_eq_true_eq] at h
  exact h
theorem ex_f1 {n : Nat} (hn : n < 2 ^ 32) (h : nI n < 0) : ex n = false := by
  have := (zn_lt0 hn).mp h
  exact decide_eq_false (by omega)
theorem ex_f2 {n : Nat} (hn : n < 2 ^ 32) (h : 5003 ≤ nI n) : ex n = false := by
  have := (zn_le (b := 5003) hn (by decide)).mp h
  exact decide_eq_false (by omega)
theorem ex_t {n : Nat} (hn : n < 2 ^ 32) (h1 : ¬ nI n < 0) (h2 : ¬ 5003 ≤ nI n) : ex n = true := by
  have a := mt (zn_lt0 hn).mpr h1
  have b := mt (zn_le (b := 5003) hn (by decide)).mpr h2
  exact decide_eq_true (by omega)
theorem ex_is {n : Nat} (h : ex n = true) : n < 5003 := of_decide_eq_true h
def bs (n : Nat) : Bool := !decide (n = 1) && el n
theorem bs_is {n : Nat} (h : bs n = true) : n ≠ 1 ∧ el n = true := by
  unfold bs at h
  simp only [Bool.and_eq_true, Bool.not_eq_true', decide_eq_false_iff_not] at h
  exact h
theorem zb_ne {b : Bool} (h : ¬ zb b = 0) : b = true := by cases b <;> simp_all [zb]
theorem zb_eq {b : Bool} (h : zb b = 0) : b = false := by cases b <;> simp_all [zb]

theorem d_D_isElement_0 : decode c_D_isElement 0 = .ok (.iload_n 0, 1) := by decide +kernel
theorem d_D_isElement_1 : decode c_D_isElement 1 = .ok (.iconst 1, 1) := by decide +kernel
theorem d_D_isElement_2 : decode c_D_isElement 2 = .ok (.if_icmp .lt 28, 3) := by decide +kernel
theorem d_D_isElement_5 : decode c_D_isElement 5 = .ok (.iload_n 0, 1) := by decide +kernel
theorem d_D_isElement_6 : decode c_D_isElement 6 = .ok (.sipush 10007, 3) := by decide +kernel
theorem d_D_isElement_9 : decode c_D_isElement 9 = .ok (.if_icmp .ge 21, 3) := by decide +kernel
theorem d_D_isElement_12 : decode c_D_isElement 12 = .ok (.iload_n 0, 1) := by decide +kernel
theorem d_D_isElement_13 : decode c_D_isElement 13 = .ok (.sipush 5003, 3) := by decide +kernel
theorem d_D_isElement_16 : decode c_D_isElement 16 = .ok (.sipush 10007, 3) := by decide +kernel
theorem d_D_isElement_19 : decode c_D_isElement 19 = .ok (.invokestatic 63, 3) := by decide +kernel
theorem d_D_isElement_22 : decode c_D_isElement 22 = .ok (.iconst 1, 1) := by decide +kernel
theorem d_D_isElement_23 : decode c_D_isElement 23 = .ok (.if_icmp .ne 7, 3) := by decide +kernel
theorem d_D_isElement_26 : decode c_D_isElement 26 = .ok (.iconst 1, 1) := by decide +kernel
theorem d_D_isElement_27 : decode c_D_isElement 27 = .ok (.goto 4, 3) := by decide +kernel
theorem d_D_isElement_30 : decode c_D_isElement 30 = .ok (.iconst 0, 1) := by decide +kernel
theorem d_D_isElement_31 : decode c_D_isElement 31 = .ok (.ireturn, 1) := by decide +kernel

set_option maxHeartbeats 4000000 in
set_option maxRecDepth 100000 in
/-- is n an element -/
theorem k_isElD (l : Launch) (n : Nat) (hn : n < 2 ^ 32) : Met l y_D_isElement (Cond.code y_D_isElement c_D_isElement 1 (some .boolean) :: zT) ({ frames := 2, cells := 0, slots := 0, locals := 80 }) (fun v _ => v = ([.int (nI n)] : List Value).toArray) (QcRead (zb (el n))) 0 0 (fun _ => False) := by
  refine Met.ofW (cc := c_D_isElement) (maxL := 1) (ret := (some .boolean)) (by decide) rfl ?_
  intro p e s m args below meth c s₁ B hml hv
  subst hv
  have hx := B.exec
  have hb := B.bytes
  have hr := B.returns
  have hts0 := atoms_spec (ws := Cond.code y_D_isElement c_D_isElement 1 (some .boolean) :: zT) B.pre
  have hts := fun w h => hts0 w (List.mem_cons_of_mem _ h)
  have hown : s.vm.findClass R_D = some m.cls := findClass_of_methodNamed B.named
  have hlocks := B.notSynchronized
  have hl := lv_entry ([.int (nI n)]) (n := 1) (Nat.le_of_ble_eq_true rfl)
  rw [lg_entry_eq]
  generalize (lg_sl ([.int (nI n)]) ++ List.replicate (1 - (lg_sl ([.int (nI n)])).length) Slot.unset).toArray = ls at hl ⊢
  have hl : lv_has ls 1 [(0, .int (nI n))] := hl
  refine lv_iload_n hx hb d_D_isElement_0 rfl (lv_at hl 0 rfl) ?_
  refine lv_iconst (v := 1) hx hb d_D_isElement_1 rfl ?_
  refine lv_icmp_lt (tgt := 30) hx hb d_D_isElement_2 rfl (fun h2 => ?_) (fun h2 => ?_)
  · skip
    have hq := el_f1 hn h2
    refine lv_iconst (v := 0) hx hb d_D_isElement_30 rfl ?_
    refine zz_as (y := zb (el n)) (by rw [hq]; rfl) ?_
    exact W.zret hx hb hr (zb_nar _) (fun t ht hW => ⟨rfl, ht⟩) (fun q h => absurd h List.not_mem_nil) d_D_isElement_31
  · skip
    refine lv_iload_n hx hb d_D_isElement_5 rfl (lv_at hl 0 rfl) ?_
    refine lv_sipush (v := 10007) hx hb d_D_isElement_6 rfl ?_
    refine lv_icmp_ge (tgt := 30) hx hb d_D_isElement_9 rfl (fun h9 => ?_) (fun h9 => ?_)
    · skip
      have hq := el_f2 hn h9
      refine lv_iconst (v := 0) hx hb d_D_isElement_30 rfl ?_
      refine zz_as (y := zb (el n)) (by rw [hq]; rfl) ?_
      exact W.zret hx hb hr (zb_nar _) (fun t ht hW => ⟨rfl, ht⟩) (fun q h => absurd h List.not_mem_nil) d_D_isElement_31
    · skip
      have hr0 := el_in hn h2 h9
      refine lv_iload_n hx hb d_D_isElement_12 rfl (lv_at hl 0 rfl) ?_
      refine lv_sipush (v := 5003) hx hb d_D_isElement_13 rfl ?_
      refine lv_sipush (v := 10007) hx hb d_D_isElement_16 rfl ?_
      refine zz_cS (index := 63) (n := 3) (As := [.int (nI n), .int 5003, .int 10007]) (rest := []) ⟨hx, hb, hml, hown, hts⟩ (k_raise l n 5003 10007 hr0.2 (by decide) (by decide) (by decide)) mk_D_63 ms_D_raise mi_D mc_D_raise (by decide +kernel) ⟨rfl, rfl⟩ ⟨by decide, by decide⟩ preEq rfl hl.1 rfl (Nat.le_of_ble_eq_true rfl) d_D_isElement_19 ⟨Nat.zero_le _, Nat.zero_le _⟩ ?_
      refine lv_iconst (v := 1) hx hb d_D_isElement_22 rfl ?_
      refine lv_icmp_ne (tgt := 30) hx hb d_D_isElement_23 rfl (fun h23 => ?_) (fun h23 => ?_)
      · skip
        have hq := el_f3 h23
        refine lv_iconst (v := 0) hx hb d_D_isElement_30 rfl ?_
        refine zz_as (y := zb (el n)) (by rw [hq]; rfl) ?_
        exact W.zret hx hb hr (zb_nar _) (fun t ht hW => ⟨rfl, ht⟩) (fun q h => absurd h List.not_mem_nil) d_D_isElement_31
      · skip
        have hq := el_t hr0 h23
        refine lv_iconst (v := 1) hx hb d_D_isElement_26 rfl ?_
        refine lv_goto (tgt := 31) hx hb d_D_isElement_27 rfl ?_
        refine zz_as (y := zb (el n)) (by rw [hq]; rfl) ?_
        exact W.zret hx hb hr (zb_nar _) (fun t ht hW => ⟨rfl, ht⟩) (fun q h => absurd h List.not_mem_nil) d_D_isElement_31

theorem d_D_isExponent_0 : decode c_D_isExponent 0 = .ok (.iload_n 0, 1) := by decide +kernel
theorem d_D_isExponent_1 : decode c_D_isExponent 1 = .ok (.ifCond .lt 14, 3) := by decide +kernel
theorem d_D_isExponent_4 : decode c_D_isExponent 4 = .ok (.iload_n 0, 1) := by decide +kernel
theorem d_D_isExponent_5 : decode c_D_isExponent 5 = .ok (.sipush 5003, 3) := by decide +kernel
theorem d_D_isExponent_8 : decode c_D_isExponent 8 = .ok (.if_icmp .ge 7, 3) := by decide +kernel
theorem d_D_isExponent_11 : decode c_D_isExponent 11 = .ok (.iconst 1, 1) := by decide +kernel
theorem d_D_isExponent_12 : decode c_D_isExponent 12 = .ok (.goto 4, 3) := by decide +kernel
theorem d_D_isExponent_15 : decode c_D_isExponent 15 = .ok (.iconst 0, 1) := by decide +kernel
theorem d_D_isExponent_16 : decode c_D_isExponent 16 = .ok (.ireturn, 1) := by decide +kernel

set_option maxHeartbeats 4000000 in
set_option maxRecDepth 100000 in
/-- is n an exponent -/
theorem k_isExD (l : Launch) (n : Nat) (hn : n < 2 ^ 32) : Met l y_D_isExponent (Cond.code y_D_isExponent c_D_isExponent 1 (some .boolean) :: zT) ({ frames := 1, cells := 0, slots := 0, locals := 40 }) (fun v _ => v = ([.int (nI n)] : List Value).toArray) (QcRead (zb (ex n))) 0 0 (fun _ => False) := by
  refine Met.ofW (cc := c_D_isExponent) (maxL := 1) (ret := (some .boolean)) (by decide) rfl ?_
  intro p e s m args below meth c s₁ B hml hv
  subst hv
  have hx := B.exec
  have hb := B.bytes
  have hr := B.returns
  have hts0 := atoms_spec (ws := Cond.code y_D_isExponent c_D_isExponent 1 (some .boolean) :: zT) B.pre
  have hts := fun w h => hts0 w (List.mem_cons_of_mem _ h)
  have hown : s.vm.findClass R_D = some m.cls := findClass_of_methodNamed B.named
  have hlocks := B.notSynchronized
  have hl := lv_entry ([.int (nI n)]) (n := 1) (Nat.le_of_ble_eq_true rfl)
  rw [lg_entry_eq]
  generalize (lg_sl ([.int (nI n)]) ++ List.replicate (1 - (lg_sl ([.int (nI n)])).length) Slot.unset).toArray = ls at hl ⊢
  have hl : lv_has ls 1 [(0, .int (nI n))] := hl
  refine lv_iload_n hx hb d_D_isExponent_0 rfl (lv_at hl 0 rfl) ?_
  refine lv_if_lt (tgt := 15) hx hb d_D_isExponent_1 rfl (fun h1 => ?_) (fun h1 => ?_)
  · skip
    have hq := ex_f1 hn h1
    refine lv_iconst (v := 0) hx hb d_D_isExponent_15 rfl ?_
    refine zz_as (y := zb (ex n)) (by rw [hq]; rfl) ?_
    exact W.zret hx hb hr (zb_nar _) (fun t ht hW => ⟨rfl, ht⟩) (fun q h => absurd h List.not_mem_nil) d_D_isExponent_16
  · skip
    refine lv_iload_n hx hb d_D_isExponent_4 rfl (lv_at hl 0 rfl) ?_
    refine lv_sipush (v := 5003) hx hb d_D_isExponent_5 rfl ?_
    refine lv_icmp_ge (tgt := 15) hx hb d_D_isExponent_8 rfl (fun h8 => ?_) (fun h8 => ?_)
    · skip
      have hq := ex_f2 hn h8
      refine lv_iconst (v := 0) hx hb d_D_isExponent_15 rfl ?_
      refine zz_as (y := zb (ex n)) (by rw [hq]; rfl) ?_
      exact W.zret hx hb hr (zb_nar _) (fun t ht hW => ⟨rfl, ht⟩) (fun q h => absurd h List.not_mem_nil) d_D_isExponent_16
    · skip
      have hq := ex_t hn h1 h8
      refine lv_iconst (v := 1) hx hb d_D_isExponent_11 rfl ?_
      refine lv_goto (tgt := 16) hx hb d_D_isExponent_12 rfl ?_
      refine zz_as (y := zb (ex n)) (by rw [hq]; rfl) ?_
      exact W.zret hx hb hr (zb_nar _) (fun t ht hW => ⟨rfl, ht⟩) (fun q h => absurd h List.not_mem_nil) d_D_isExponent_16

theorem d_D_isPair_0 : decode c_D_isPair 0 = .ok (.iload_n 0, 1) := by decide +kernel
theorem d_D_isPair_1 : decode c_D_isPair 1 = .ok (.iconst 1, 1) := by decide +kernel
theorem d_D_isPair_2 : decode c_D_isPair 2 = .ok (.if_icmp .eq 21, 3) := by decide +kernel
theorem d_D_isPair_5 : decode c_D_isPair 5 = .ok (.iload_n 0, 1) := by decide +kernel
theorem d_D_isPair_6 : decode c_D_isPair 6 = .ok (.invokestatic 56, 3) := by decide +kernel
theorem d_D_isPair_9 : decode c_D_isPair 9 = .ok (.ifCond .eq 14, 3) := by decide +kernel
theorem d_D_isPair_12 : decode c_D_isPair 12 = .ok (.iload_n 1, 1) := by decide +kernel
theorem d_D_isPair_13 : decode c_D_isPair 13 = .ok (.invokestatic 56, 3) := by decide +kernel
theorem d_D_isPair_16 : decode c_D_isPair 16 = .ok (.ifCond .eq 7, 3) := by decide +kernel
theorem d_D_isPair_19 : decode c_D_isPair 19 = .ok (.iconst 1, 1) := by decide +kernel
theorem d_D_isPair_20 : decode c_D_isPair 20 = .ok (.goto 4, 3) := by decide +kernel
theorem d_D_isPair_23 : decode c_D_isPair 23 = .ok (.iconst 0, 1) := by decide +kernel
theorem d_D_isPair_24 : decode c_D_isPair 24 = .ok (.ireturn, 1) := by decide +kernel

set_option maxHeartbeats 4000000 in
set_option maxRecDepth 100000 in
/-- are b and y a base and an element -/
theorem k_isPair (l : Launch) (b y : Nat) (hb0 : b < 2 ^ 32) (hy0 : y < 2 ^ 32) : Met l y_D_isPair (Cond.code y_D_isPair c_D_isPair 2 (some .boolean) :: zT) ({ frames := 3, cells := 0, slots := 0, locals := 120 }) (fun v _ => v = ([.int (nI b), .int (nI y)] : List Value).toArray) (QcRead (zb (bs b && el y))) 0 0 (fun _ => False) := by
  refine Met.ofW (cc := c_D_isPair) (maxL := 2) (ret := (some .boolean)) (by decide) rfl ?_
  intro p e s m args below meth c s₁ B hml hv
  subst hv
  have hx := B.exec
  have hb := B.bytes
  have hr := B.returns
  have hts0 := atoms_spec (ws := Cond.code y_D_isPair c_D_isPair 2 (some .boolean) :: zT) B.pre
  have hts := fun w h => hts0 w (List.mem_cons_of_mem _ h)
  have hown : s.vm.findClass R_D = some m.cls := findClass_of_methodNamed B.named
  have hlocks := B.notSynchronized
  have hl := lv_entry ([.int (nI b), .int (nI y)]) (n := 2) (Nat.le_of_ble_eq_true rfl)
  rw [lg_entry_eq]
  generalize (lg_sl ([.int (nI b), .int (nI y)]) ++ List.replicate (2 - (lg_sl ([.int (nI b), .int (nI y)])).length) Slot.unset).toArray = ls at hl ⊢
  have hl : lv_has ls 2 [(0, .int (nI b)), (1, .int (nI y))] := hl
  refine lv_iload_n hx hb d_D_isPair_0 rfl (lv_at hl 0 rfl) ?_
  refine lv_iconst (v := 1) hx hb d_D_isPair_1 rfl ?_
  refine lv_icmp_eq (tgt := 23) hx hb d_D_isPair_2 rfl (fun h2 => ?_) (fun h2 => ?_)
  · skip
    have hb1 : b = 1 := (zn_inj hb0 (by decide)).mp h2
    have hq : (bs b && el y) = false := by unfold bs; rw [decide_eq_true hb1]; rfl
    refine lv_iconst (v := 0) hx hb d_D_isPair_23 rfl ?_
    refine zz_as (y := zb (bs b && el y)) (by rw [hq]; rfl) ?_
    exact W.zret hx hb hr (zb_nar _) (fun t ht hW => ⟨rfl, ht⟩) (fun q h => absurd h List.not_mem_nil) d_D_isPair_24
  · skip
    have hb1 : ¬ b = 1 := fun q => h2 (by rw [q]; rfl)
    refine lv_iload_n hx hb d_D_isPair_5 rfl (lv_at hl 0 rfl) ?_
    refine zz_cS (index := 56) (n := 1) (As := [.int (nI b)]) (rest := []) ⟨hx, hb, hml, hown, hts⟩ (k_isElD l b hb0) mk_D_56 ms_D_isElement mi_D mc_D_isElement (by decide +kernel) ⟨rfl, rfl⟩ ⟨by decide, by decide⟩ preEq rfl hl.1 rfl (Nat.le_of_ble_eq_true rfl) d_D_isPair_6 ⟨Nat.zero_le _, Nat.zero_le _⟩ ?_
    refine lv_if_eq (tgt := 23) hx hb d_D_isPair_9 rfl (fun h9 => ?_) (fun h9 => ?_)
    · skip
      have hq : (bs b && el y) = false := by unfold bs; rw [zb_eq h9, Bool.and_false, Bool.false_and]
      refine lv_iconst (v := 0) hx hb d_D_isPair_23 rfl ?_
      refine zz_as (y := zb (bs b && el y)) (by rw [hq]; rfl) ?_
      exact W.zret hx hb hr (zb_nar _) (fun t ht hW => ⟨rfl, ht⟩) (fun q h => absurd h List.not_mem_nil) d_D_isPair_24
    · skip
      refine lv_iload_n hx hb d_D_isPair_12 rfl (lv_at hl 1 rfl) ?_
      refine zz_cS (index := 56) (n := 1) (As := [.int (nI y)]) (rest := []) ⟨hx, hb, hml, hown, hts⟩ (k_isElD l y hy0) mk_D_56 ms_D_isElement mi_D mc_D_isElement (by decide +kernel) ⟨rfl, rfl⟩ ⟨by decide, by decide⟩ preEq rfl hl.1 rfl (Nat.le_of_ble_eq_true rfl) d_D_isPair_13 ⟨Nat.zero_le _, Nat.zero_le _⟩ ?_
      refine lv_if_eq (tgt := 23) hx hb d_D_isPair_16 rfl (fun h16 => ?_) (fun h16 => ?_)
      · skip
        have hq : (bs b && el y) = false := by rw [zb_eq h16, Bool.and_false]
        refine lv_iconst (v := 0) hx hb d_D_isPair_23 rfl ?_
        refine zz_as (y := zb (bs b && el y)) (by rw [hq]; rfl) ?_
        exact W.zret hx hb hr (zb_nar _) (fun t ht hW => ⟨rfl, ht⟩) (fun q h => absurd h List.not_mem_nil) d_D_isPair_24
      · skip
        have hq : (bs b && el y) = true := by unfold bs; rw [decide_eq_false hb1, zb_ne h9, zb_ne h16]; rfl
        refine lv_iconst (v := 1) hx hb d_D_isPair_19 rfl ?_
        refine lv_goto (tgt := 24) hx hb d_D_isPair_20 rfl ?_
        refine zz_as (y := zb (bs b && el y)) (by rw [hq]; rfl) ?_
        exact W.zret hx hb hr (zb_nar _) (fun t ht hW => ⟨rfl, ht⟩) (fun q h => absurd h List.not_mem_nil) d_D_isPair_24

theorem d_D_minus_0 : decode c_D_minus 0 = .ok (.iload_n 0, 1) := by decide +kernel
theorem d_D_minus_1 : decode c_D_minus 1 = .ok (.iload_n 1, 1) := by decide +kernel
theorem d_D_minus_2 : decode c_D_minus 2 = .ok (.if_icmp .lt 9, 3) := by decide +kernel
theorem d_D_minus_5 : decode c_D_minus 5 = .ok (.iload_n 0, 1) := by decide +kernel
theorem d_D_minus_6 : decode c_D_minus 6 = .ok (.iload_n 1, 1) := by decide +kernel
theorem d_D_minus_7 : decode c_D_minus 7 = .ok (.isub, 1) := by decide +kernel
theorem d_D_minus_8 : decode c_D_minus 8 = .ok (.goto 10, 3) := by decide +kernel
theorem d_D_minus_11 : decode c_D_minus 11 = .ok (.iload_n 0, 1) := by decide +kernel
theorem d_D_minus_12 : decode c_D_minus 12 = .ok (.iload_n 1, 1) := by decide +kernel
theorem d_D_minus_13 : decode c_D_minus 13 = .ok (.isub, 1) := by decide +kernel
theorem d_D_minus_14 : decode c_D_minus 14 = .ok (.sipush 5003, 3) := by decide +kernel
theorem d_D_minus_17 : decode c_D_minus 17 = .ok (.iadd, 1) := by decide +kernel
theorem d_D_minus_18 : decode c_D_minus 18 = .ok (.ireturn, 1) := by decide +kernel

theorem zn_sub5 {a b : Nat} (h : b ≤ a + 5003) : nI a - nI b + 5003 = nI (a + 5003 - b) := by
  rw [← pk_sub h, ← nI_add, show (5003 : Int32) = nI 5003 from rfl, Int32.sub_eq_add_neg, Int32.sub_eq_add_neg, Int32.add_assoc, Int32.add_comm (-nI b), ← Int32.add_assoc]

set_option maxHeartbeats 4000000 in
set_option maxRecDepth 100000 in
/-- a - b, modulo 5003 -/
theorem k_minus (l : Launch) (a b : Nat) (ha : a < 5003) (hb0 : b < 5003) : Met l y_D_minus (Cond.code y_D_minus c_D_minus 2 (some .int) :: zT) ({ frames := 1, cells := 0, slots := 0, locals := 40 }) (fun v _ => v = ([.int (nI a), .int (nI b)] : List Value).toArray) (QcRead (nI (ls5 a b))) 0 0 (fun _ => False) := by
  refine Met.ofW (cc := c_D_minus) (maxL := 2) (ret := (some .int)) (by decide) rfl ?_
  intro p e s m args below meth c s₁ B hml hv
  subst hv
  have hx := B.exec
  have hb := B.bytes
  have hr := B.returns
  have hts0 := atoms_spec (ws := Cond.code y_D_minus c_D_minus 2 (some .int) :: zT) B.pre
  have hts := fun w h => hts0 w (List.mem_cons_of_mem _ h)
  have hown : s.vm.findClass R_D = some m.cls := findClass_of_methodNamed B.named
  have hlocks := B.notSynchronized
  have hl := lv_entry ([.int (nI a), .int (nI b)]) (n := 2) (Nat.le_of_ble_eq_true rfl)
  rw [lg_entry_eq]
  generalize (lg_sl ([.int (nI a), .int (nI b)]) ++ List.replicate (2 - (lg_sl ([.int (nI a), .int (nI b)])).length) Slot.unset).toArray = ls at hl ⊢
  have hl : lv_has ls 2 [(0, .int (nI a)), (1, .int (nI b))] := hl
  refine lv_iload_n hx hb d_D_minus_0 rfl (lv_at hl 0 rfl) ?_
  refine lv_iload_n hx hb d_D_minus_1 rfl (lv_at hl 1 rfl) ?_
  refine lv_icmp_lt (tgt := 11) hx hb d_D_minus_2 rfl (fun h2 => ?_) (fun h2 => ?_)
  · skip
    refine lv_iload_n hx hb d_D_minus_11 rfl (lv_at hl 0 rfl) ?_
    refine lv_iload_n hx hb d_D_minus_12 rfl (lv_at hl 1 rfl) ?_
    refine lv_isub hx hb d_D_minus_13 ?_
    refine lv_sipush (v := 5003) hx hb d_D_minus_14 rfl ?_
    refine lv_iadd hx hb d_D_minus_17 ?_
    have q : a < b := (nI_ltI (by omega) (by omega)).mp h2
    refine zz_as (y := nI (ls5 a b)) (by rw [show ls5 a b = a + 5003 - b by unfold ls5; omega]; exact zn_sub5 (by omega)) ?_
    exact W.iret hx hb hr (fun t ht hW => ⟨rfl, ht⟩) (fun q h => absurd h List.not_mem_nil) d_D_minus_18
  · skip
    have q : b ≤ a := Nat.not_lt.mp (mt (nI_lt (a := a) (b := b) · (by omega)) h2)
    refine lv_iload_n hx hb d_D_minus_5 rfl (lv_at hl 0 rfl) ?_
    refine lv_iload_n hx hb d_D_minus_6 rfl (lv_at hl 1 rfl) ?_
    refine lv_isub hx hb d_D_minus_7 ?_
    refine lv_goto (tgt := 18) hx hb d_D_minus_8 rfl ?_
    refine zz_as (y := nI (ls5 a b)) (by rw [pk_sub q, show ls5 a b = a - b by unfold ls5; omega]) ?_
    exact W.iret hx hb hr (fun t ht hW => ⟨rfl, ht⟩) (fun q h => absurd h List.not_mem_nil) d_D_minus_18
end
section
/-! the model's static methods -/

theorem d_M_times_0 : decode c_M_times 0 = .ok (.iload_n 0, 1) := by decide +kernel
theorem d_M_times_1 : decode c_M_times 1 = .ok (.i2l, 1) := by decide +kernel
theorem d_M_times_2 : decode c_M_times 2 = .ok (.iload_n 1, 1) := by decide +kernel
theorem d_M_times_3 : decode c_M_times 3 = .ok (.i2l, 1) := by decide +kernel
theorem d_M_times_4 : decode c_M_times 4 = .ok (.lmul, 1) := by decide +kernel
theorem d_M_times_5 : decode c_M_times 5 = .ok (.iload_n 2, 1) := by decide +kernel
theorem d_M_times_6 : decode c_M_times 6 = .ok (.i2l, 1) := by decide +kernel
theorem d_M_times_7 : decode c_M_times 7 = .ok (.lrem, 1) := by decide +kernel
theorem d_M_times_8 : decode c_M_times 8 = .ok (.l2i, 1) := by decide +kernel
theorem d_M_times_9 : decode c_M_times 9 = .ok (.ireturn, 1) := by decide +kernel

set_option maxHeartbeats 4000000 in
set_option maxRecDepth 100000 in
/-- a b, modulo m -/
theorem k_times (l : Launch) (a b m0 : Nat) (ha : a < 2 ^ 31) (hb0 : b < 2 ^ 31) (hm1 : 0 < m0) (hm2 : m0 < 2 ^ 31) : Met l y_M_times (Cond.code y_M_times c_M_times 3 (some .int) :: zT) ({ frames := 1, cells := 0, slots := 0, locals := 40 }) (fun v _ => v = ([.int (nI a), .int (nI b), .int (nI m0)] : List Value).toArray) (QcRead (nI (a * b % m0))) 0 0 (fun _ => False) := by
  refine Met.ofW (cc := c_M_times) (maxL := 3) (ret := (some .int)) (by decide) rfl ?_
  intro p e s m args below meth c s₁ B hml hv
  subst hv
  have hx := B.exec
  have hb := B.bytes
  have hr := B.returns
  have hts0 := atoms_spec (ws := Cond.code y_M_times c_M_times 3 (some .int) :: zT) B.pre
  have hts := fun w h => hts0 w (List.mem_cons_of_mem _ h)
  have hown : s.vm.findClass R_M = some m.cls := findClass_of_methodNamed B.named
  have hlocks := B.notSynchronized
  have hl := lv_entry ([.int (nI a), .int (nI b), .int (nI m0)]) (n := 3) (Nat.le_of_ble_eq_true rfl)
  rw [lg_entry_eq]
  generalize (lg_sl ([.int (nI a), .int (nI b), .int (nI m0)]) ++ List.replicate (3 - (lg_sl ([.int (nI a), .int (nI b), .int (nI m0)])).length) Slot.unset).toArray = ls at hl ⊢
  have hl : lv_has ls 3 [(0, .int (nI a)), (1, .int (nI b)), (2, .int (nI m0))] := hl
  refine lv_iload_n hx hb d_M_times_0 rfl (lv_at hl 0 rfl) ?_
  refine lv_i2l (v := lN a) hx hb d_M_times_1 (nI_l ha) ?_
  refine lv_iload_n hx hb d_M_times_2 rfl (lv_at hl 1 rfl) ?_
  refine lv_i2l (v := lN b) hx hb d_M_times_3 (nI_l hb0) ?_
  refine lv_lmul hx hb d_M_times_4 ?_
  refine zz_asl (y := lN (a * b)) (lN_mul a b) ?_
  refine lv_iload_n hx hb d_M_times_5 rfl (lv_at hl 2 rfl) ?_
  refine lv_i2l (v := lN m0) hx hb d_M_times_6 (nI_l hm2) ?_
  refine lv_lrem hx hb d_M_times_7 (fun q => absurd ((pk_lEQ (a := m0) (b := 0) (by omega) (by decide)).mp q) (by omega)) ?_
  have hab : a * b < 2 ^ 63 := Nat.lt_of_le_of_lt (Nat.mul_le_mul (Nat.le_of_lt_succ (show a < 2 ^ 31 - 1 + 1 by omega)) (Nat.le_of_lt_succ (show b < 2 ^ 31 - 1 + 1 by omega))) (by decide)
  refine zz_asl (y := lN (a * b % m0)) (pk_lRem hab hm1 (by omega)) ?_
  refine lv_l2i (v := nI (a * b % m0)) hx hb d_M_times_8 (lN_i _) ?_
  exact W.iret hx hb hr (fun t ht hW => ⟨rfl, ht⟩) (fun q h => absurd h List.not_mem_nil) d_M_times_9

theorem d_M_raised_0 : decode c_M_raised 0 = .ok (.iconst 1, 1) := by decide +kernel
theorem d_M_raised_1 : decode c_M_raised 1 = .ok (.istore_n 2, 1) := by decide +kernel
theorem d_M_raised_2 : decode c_M_raised 2 = .ok (.sipush 1000, 3) := by decide +kernel
theorem d_M_raised_5 : decode c_M_raised 5 = .ok (.istore_n 3, 1) := by decide +kernel
theorem d_M_raised_6 : decode c_M_raised 6 = .ok (.iload_n 3, 1) := by decide +kernel
theorem d_M_raised_7 : decode c_M_raised 7 = .ok (.ifCond .le 69, 3) := by decide +kernel
theorem d_M_raised_10 : decode c_M_raised 10 = .ok (.iload_n 2, 1) := by decide +kernel
theorem d_M_raised_11 : decode c_M_raised 11 = .ok (.istore 4, 2) := by decide +kernel
theorem d_M_raised_13 : decode c_M_raised 13 = .ok (.iconst 0, 1) := by decide +kernel
theorem d_M_raised_14 : decode c_M_raised 14 = .ok (.istore 5, 2) := by decide +kernel
theorem d_M_raised_16 : decode c_M_raised 16 = .ok (.iload 5, 2) := by decide +kernel
theorem d_M_raised_18 : decode c_M_raised 18 = .ok (.bipush 9, 2) := by decide +kernel
theorem d_M_raised_20 : decode c_M_raised 20 = .ok (.if_icmp .ge 19, 3) := by decide +kernel
theorem d_M_raised_23 : decode c_M_raised 23 = .ok (.iload_n 2, 1) := by decide +kernel
theorem d_M_raised_24 : decode c_M_raised 24 = .ok (.iload 4, 2) := by decide +kernel
theorem d_M_raised_26 : decode c_M_raised 26 = .ok (.sipush 10007, 3) := by decide +kernel
theorem d_M_raised_29 : decode c_M_raised 29 = .ok (.invokestatic 92, 3) := by decide +kernel
theorem d_M_raised_32 : decode c_M_raised 32 = .ok (.istore_n 2, 1) := by decide +kernel
theorem d_M_raised_33 : decode c_M_raised 33 = .ok (.iinc 5 1, 3) := by decide +kernel
theorem d_M_raised_36 : decode c_M_raised 36 = .ok (.goto (-20), 3) := by decide +kernel
theorem d_M_raised_39 : decode c_M_raised 39 = .ok (.iconst 0, 1) := by decide +kernel
theorem d_M_raised_40 : decode c_M_raised 40 = .ok (.istore 5, 2) := by decide +kernel
theorem d_M_raised_42 : decode c_M_raised 42 = .ok (.iload 5, 2) := by decide +kernel
theorem d_M_raised_44 : decode c_M_raised 44 = .ok (.iload_n 1, 1) := by decide +kernel
theorem d_M_raised_45 : decode c_M_raised 45 = .ok (.iload_n 3, 1) := by decide +kernel
theorem d_M_raised_46 : decode c_M_raised 46 = .ok (.idiv, 1) := by decide +kernel
theorem d_M_raised_47 : decode c_M_raised 47 = .ok (.bipush 10, 2) := by decide +kernel
theorem d_M_raised_49 : decode c_M_raised 49 = .ok (.irem, 1) := by decide +kernel
theorem d_M_raised_50 : decode c_M_raised 50 = .ok (.if_icmp .ge 18, 3) := by decide +kernel
theorem d_M_raised_53 : decode c_M_raised 53 = .ok (.iload_n 2, 1) := by decide +kernel
theorem d_M_raised_54 : decode c_M_raised 54 = .ok (.iload_n 0, 1) := by decide +kernel
theorem d_M_raised_55 : decode c_M_raised 55 = .ok (.sipush 10007, 3) := by decide +kernel
theorem d_M_raised_58 : decode c_M_raised 58 = .ok (.invokestatic 92, 3) := by decide +kernel
theorem d_M_raised_61 : decode c_M_raised 61 = .ok (.istore_n 2, 1) := by decide +kernel
theorem d_M_raised_62 : decode c_M_raised 62 = .ok (.iinc 5 1, 3) := by decide +kernel
theorem d_M_raised_65 : decode c_M_raised 65 = .ok (.goto (-23), 3) := by decide +kernel
theorem d_M_raised_68 : decode c_M_raised 68 = .ok (.iload_n 3, 1) := by decide +kernel
theorem d_M_raised_69 : decode c_M_raised 69 = .ok (.bipush 10, 2) := by decide +kernel
theorem d_M_raised_71 : decode c_M_raised 71 = .ok (.idiv, 1) := by decide +kernel
theorem d_M_raised_72 : decode c_M_raised 72 = .ok (.istore_n 3, 1) := by decide +kernel
theorem d_M_raised_73 : decode c_M_raised 73 = .ok (.goto (-67), 3) := by decide +kernel
theorem d_M_raised_76 : decode c_M_raised 76 = .ok (.iload_n 2, 1) := by decide +kernel
theorem d_M_raised_77 : decode c_M_raised 77 = .ok (.ireturn, 1) := by decide +kernel

section MR
variable {p : Program} {l : Launch} {e : Env} {R : Room} {s : State} {m : MethodId} {args : Array Value} {below : List Frame} {meth : Method} {c : Code} {H H0 : Heap} {locs : List Loc} {cells slots : Nat} {Q : State → Prop} {A : Nat → Prop}
set_option maxHeartbeats 4000000 in
set_option maxRecDepth 100000 in
theorem raised_in1 (hx : p.tables.exec = Jvm.exec) (hb : c.code = c_M_raised) (hml : c.maxLocals = 6) (hown : s.vm.findClass R_M = some m.cls) (hts : ∀ w ∈ zT, w.before args s = true) (hRf : 2 ≤ R.frames) (hRl : 80 ≤ R.locals) (hc : cells ≤ R.cells) (hsl : slots ≤ R.slots) {b e0 t0 k0 : Nat} (hb0 : b < 10007) (kk : ∀ ls : Array Slot, lv_has ls 6 [(2, .int (nI (b ^ (k0 * 10) % 10007))), (3, .int (nI t0)), (0, .int (nI b)), (1, .int (nI e0))] → W p l e R s m args below meth c H locs cells slots Q (F0 m 39 ls [])) : ∀ (j i : Nat), i + j = 9 → ∀ ls : Array Slot, lv_has ls 6 [(5, .int (nI i)), (2, .int (nI (b ^ (k0 * (i + 1)) % 10007))), (4, .int (nI (b ^ k0 % 10007))), (3, .int (nI t0)), (0, .int (nI b)), (1, .int (nI e0))] → W p l e R s m args below meth c H locs cells slots Q (F0 m 16 ls []) := by
  intro j
  induction j with
  | zero =>
    intro i hi ls hl
    obtain rfl : i = 9 := by omega
    refine lv_iload hx hb d_M_raised_16 (lv_at hl 0 rfl) ?_
    refine lv_bipush (v := 9) hx hb d_M_raised_18 rfl ?_
    refine lv_icmp_ge (tgt := 39) hx hb d_M_raised_20 rfl (fun h20 => ?_) (fun h20 => absurd (by decide) h20)
    have hl := lv_sub (l' := [(2, .int (nI (b ^ (k0 * (9 + 1)) % 10007))), (3, .int (nI t0)), (0, .int (nI b)), (1, .int (nI e0))]) hl [1, 3, 4, 5] rfl
    exact kk ls hl
  | succ j ih =>
    intro i hi ls hl
    have hx0 : b ^ (k0 * (i + 1)) % 10007 < 10007 := Nat.mod_lt _ (by decide)
    have hx1 : b ^ k0 % 10007 < 10007 := Nat.mod_lt _ (by decide)
    refine lv_iload hx hb d_M_raised_16 (lv_at hl 0 rfl) ?_
    refine lv_bipush (v := 9) hx hb d_M_raised_18 rfl ?_
    refine lv_icmp_ge (tgt := 39) hx hb d_M_raised_20 rfl (fun h20 => absurd h20 (nI_ge (b := 9) (by omega) (by decide))) (fun h20 => ?_)
    refine lv_iload_n hx hb d_M_raised_23 rfl (lv_at hl 1 rfl) ?_
    refine lv_iload hx hb d_M_raised_24 (lv_at hl 2 rfl) ?_
    refine lv_sipush (v := 10007) hx hb d_M_raised_26 rfl ?_
    refine zz_cS (index := 92) (n := 3) (As := [.int (nI (b ^ (k0 * (i + 1)) % 10007)), .int (nI (b ^ k0 % 10007)), .int 10007]) (rest := []) ⟨hx, hb, hml, hown, hts⟩ (k_times l (b ^ (k0 * (i + 1)) % 10007) (b ^ k0 % 10007) 10007 (by omega) (by omega) (by decide) (by decide)) mk_M_92 ms_M_times mi_M mc_M_times (by decide +kernel) ⟨rfl, rfl⟩ ⟨hRf, Nat.le_trans (by decide) hRl⟩ preEq rfl hl.1 rfl (Nat.le_of_ble_eq_true rfl) d_M_raised_29 ⟨hc, hsl⟩ ?_
    refine zz_as (y := nI (b ^ (k0 * (i + 1 + 1)) % 10007)) (congrArg nI (zp_mulk ..)) ?_
    refine lv_istore_n (lv' := [(2, .int (nI (b ^ (k0 * (i + 1 + 1)) % 10007))), (5, .int (nI i)), (4, .int (nI (b ^ k0 % 10007))), (3, .int (nI t0)), (0, .int (nI b)), (1, .int (nI e0))]) hx hb d_M_raised_32 rfl hl (by decide) rfl (fun ls hl => ?_)
    refine lv_iinc (k := 1) (v := (nI i) + 1) (lv' := [(5, .int ((nI i) + 1)), (2, .int (nI (b ^ (k0 * (i + 1 + 1)) % 10007))), (4, .int (nI (b ^ k0 % 10007))), (3, .int (nI t0)), (0, .int (nI b)), (1, .int (nI e0))]) hx hb d_M_raised_33 hl rfl rfl (by decide) rfl (fun ls hl => ?_)
    rw [nI_1] at hl
    refine lv_goto (tgt := 16) hx hb d_M_raised_36 rfl ?_
    have hl := lv_sub (l' := [(5, .int (nI (i + 1))), (2, .int (nI (b ^ (k0 * (i + 1 + 1)) % 10007))), (4, .int (nI (b ^ k0 % 10007))), (3, .int (nI t0)), (0, .int (nI b)), (1, .int (nI e0))]) hl [0, 1, 2, 3, 4, 5] rfl
    exact ih (i + 1) (by omega) ls hl
set_option maxHeartbeats 4000000 in
set_option maxRecDepth 100000 in
theorem raised_in2 (hx : p.tables.exec = Jvm.exec) (hb : c.code = c_M_raised) (hml : c.maxLocals = 6) (hown : s.vm.findClass R_M = some m.cls) (hts : ∀ w ∈ zT, w.before args s = true) (hRf : 2 ≤ R.frames) (hRl : 80 ≤ R.locals) (hc : cells ≤ R.cells) (hsl : slots ≤ R.slots) {b e0 t0 k0 : Nat} (hb0 : b < 10007) (ht0 : 0 < t0) (ht1 : t0 < 2 ^ 31) (he0 : e0 < 2 ^ 31) (kk : ∀ ls : Array Slot, lv_has ls 6 [(2, .int (nI (b ^ (k0 + e0 / t0 % 10) % 10007))), (3, .int (nI t0)), (0, .int (nI b)), (1, .int (nI e0))] → W p l e R s m args below meth c H locs cells slots Q (F0 m 68 ls [])) : ∀ (j i : Nat), i + j = e0 / t0 % 10 → ∀ ls : Array Slot, lv_has ls 6 [(5, .int (nI i)), (2, .int (nI (b ^ (k0 + i) % 10007))), (3, .int (nI t0)), (0, .int (nI b)), (1, .int (nI e0))] → W p l e R s m args below meth c H locs cells slots Q (F0 m 42 ls []) := by
  have hd : nI e0 / nI t0 = nI (e0 / t0) := pk_div he0 ht0 ht1
  have hd2 : e0 / t0 < 2 ^ 31 := Nat.lt_of_le_of_lt (Nat.div_le_self _ _) he0
  have hd3 : nI (e0 / t0) - nI (e0 / t0) / 10 * 10 = nI (e0 / t0 % 10) := pk_rem (d := 10) hd2 (by decide) (by decide)
  have hd4 : e0 / t0 % 10 < 10 := Nat.mod_lt _ (by decide)
  intro j
  induction j with
  | zero =>
    intro i hi ls hl
    obtain rfl : i = e0 / t0 % 10 := by omega
    refine lv_iload hx hb d_M_raised_42 (lv_at hl 0 rfl) ?_
    refine lv_iload_n hx hb d_M_raised_44 rfl (lv_at hl 4 rfl) ?_
    refine lv_iload_n hx hb d_M_raised_45 rfl (lv_at hl 2 rfl) ?_
    refine lv_idiv hx hb d_M_raised_46 (nI_ne0 ht0 ht1) ?_
    refine zz_as (y := nI (e0 / t0)) (hd) ?_
    refine lv_bipush (v := 10) hx hb d_M_raised_47 rfl ?_
    refine lv_irem hx hb d_M_raised_49 (by decide) ?_
    refine zz_as (y := nI (e0 / t0 % 10)) (hd3) ?_
    refine lv_icmp_ge (tgt := 68) hx hb d_M_raised_50 rfl (fun h50 => ?_) (fun h50 => absurd (Int32.le_refl _) h50)
    have hl := lv_sub (l' := [(2, .int (nI (b ^ (k0 + e0 / t0 % 10) % 10007))), (3, .int (nI t0)), (0, .int (nI b)), (1, .int (nI e0))]) hl [1, 2, 3, 4] rfl
    exact kk ls hl
  | succ j ih =>
    intro i hi ls hl
    have hx0 : b ^ (k0 + i) % 10007 < 10007 := Nat.mod_lt _ (by decide)
    refine lv_iload hx hb d_M_raised_42 (lv_at hl 0 rfl) ?_
    refine lv_iload_n hx hb d_M_raised_44 rfl (lv_at hl 4 rfl) ?_
    refine lv_iload_n hx hb d_M_raised_45 rfl (lv_at hl 2 rfl) ?_
    refine lv_idiv hx hb d_M_raised_46 (nI_ne0 ht0 ht1) ?_
    refine zz_as (y := nI (e0 / t0)) (hd) ?_
    refine lv_bipush (v := 10) hx hb d_M_raised_47 rfl ?_
    refine lv_irem hx hb d_M_raised_49 (by decide) ?_
    refine zz_as (y := nI (e0 / t0 % 10)) (hd3) ?_
    refine lv_icmp_ge (tgt := 68) hx hb d_M_raised_50 rfl (fun h50 => absurd h50 (nI_ge (by omega) (by omega))) (fun h50 => ?_)
    refine lv_iload_n hx hb d_M_raised_53 rfl (lv_at hl 1 rfl) ?_
    refine lv_iload_n hx hb d_M_raised_54 rfl (lv_at hl 3 rfl) ?_
    refine lv_sipush (v := 10007) hx hb d_M_raised_55 rfl ?_
    refine zz_cS (index := 92) (n := 3) (As := [.int (nI (b ^ (k0 + i) % 10007)), .int (nI b), .int 10007]) (rest := []) ⟨hx, hb, hml, hown, hts⟩ (k_times l (b ^ (k0 + i) % 10007) b 10007 (by omega) (by omega) (by decide) (by decide)) mk_M_92 ms_M_times mi_M mc_M_times (by decide +kernel) ⟨rfl, rfl⟩ ⟨hRf, Nat.le_trans (by decide) hRl⟩ preEq rfl hl.1 rfl (Nat.le_of_ble_eq_true rfl) d_M_raised_58 ⟨hc, hsl⟩ ?_
    refine zz_as (y := nI (b ^ (k0 + (i + 1)) % 10007)) (congrArg nI (zp_mul ..)) ?_
    refine lv_istore_n (lv' := [(2, .int (nI (b ^ (k0 + (i + 1)) % 10007))), (5, .int (nI i)), (3, .int (nI t0)), (0, .int (nI b)), (1, .int (nI e0))]) hx hb d_M_raised_61 rfl hl (by decide) rfl (fun ls hl => ?_)
    refine lv_iinc (k := 1) (v := (nI i) + 1) (lv' := [(5, .int ((nI i) + 1)), (2, .int (nI (b ^ (k0 + (i + 1)) % 10007))), (3, .int (nI t0)), (0, .int (nI b)), (1, .int (nI e0))]) hx hb d_M_raised_62 hl rfl rfl (by decide) rfl (fun ls hl => ?_)
    rw [nI_1] at hl
    refine lv_goto (tgt := 42) hx hb d_M_raised_65 rfl ?_
    have hl := lv_sub (l' := [(5, .int (nI (i + 1))), (2, .int (nI (b ^ (k0 + (i + 1)) % 10007))), (3, .int (nI t0)), (0, .int (nI b)), (1, .int (nI e0))]) hl [0, 1, 2, 3, 4] rfl
    exact ih (i + 1) (by omega) ls hl
end MR

theorem zp_dig {e t : Nat} : e / (t * 10) * 10 + e / t % 10 = e / t := by
  rw [← Nat.div_div_eq_div_mul]; omega

set_option maxHeartbeats 4000000 in
set_option maxRecDepth 100000 in
/-- raised(b, e) is b to the e, modulo 10007 -/
theorem k_raised (l : Launch) (b e0 : Nat) (hb0 : b < 10007) (he0 : e0 < 10000) : Met l y_M_raised (Cond.code y_M_raised c_M_raised 6 (some .int) :: zT) ({ frames := 2, cells := 0, slots := 0, locals := 80 }) (fun v _ => v = ([.int (nI b), .int (nI e0)] : List Value).toArray) (QcRead (nI (b ^ e0 % 10007))) 0 0 (fun _ => False) := by
  refine Met.ofW (cc := c_M_raised) (maxL := 6) (ret := (some .int)) (by decide) rfl ?_
  intro p e s m args below meth c s₁ B hml hv
  subst hv
  have hx := B.exec
  have hb := B.bytes
  have hr := B.returns
  have hts0 := atoms_spec (ws := Cond.code y_M_raised c_M_raised 6 (some .int) :: zT) B.pre
  have hts := fun w h => hts0 w (List.mem_cons_of_mem _ h)
  have hown : s.vm.findClass R_M = some m.cls := findClass_of_methodNamed B.named
  have hlocks := B.notSynchronized
  have hl := lv_entry ([.int (nI b), .int (nI e0)]) (n := 6) (Nat.le_of_ble_eq_true rfl)
  rw [lg_entry_eq]
  generalize (lg_sl ([.int (nI b), .int (nI e0)]) ++ List.replicate (6 - (lg_sl ([.int (nI b), .int (nI e0)])).length) Slot.unset).toArray = ls at hl ⊢
  have hl : lv_has ls 6 [(0, .int (nI b)), (1, .int (nI e0))] := hl
  refine lv_iconst (v := 1) hx hb d_M_raised_0 rfl ?_
  refine lv_istore_n (lv' := [(2, .int 1), (0, .int (nI b)), (1, .int (nI e0))]) hx hb d_M_raised_1 rfl hl (by decide) rfl (fun ls hl => ?_)
  refine lv_sipush (v := 1000) hx hb d_M_raised_2 rfl ?_
  refine lv_istore_n (lv' := [(3, .int 1000), (2, .int 1), (0, .int (nI b)), (1, .int (nI e0))]) hx hb d_M_raised_5 rfl hl (by decide) rfl (fun ls hl => ?_)
  have hl : lv_has ls 6 [(3, .int (nI 1000)), (2, .int (nI (b ^ (e0 / (1000 * 10)) % 10007))), (0, .int (nI b)), (1, .int (nI e0))] := by rw [Nat.div_eq_of_lt (show e0 < 1000 * 10 by omega), Nat.pow_zero]; exact hl
  refine lv_iload_n hx hb d_M_raised_6 rfl (lv_at hl 0 rfl) ?_
  refine lv_if_le (tgt := 76) hx hb d_M_raised_7 rfl (fun h7 => absurd h7 (by decide)) (fun h7 => ?_)
  refine lv_iload_n hx hb d_M_raised_10 rfl (lv_at hl 1 rfl) ?_
  refine lv_istore (lv' := [(4, .int (nI (b ^ (e0 / (1000 * 10)) % 10007))), (3, .int (nI 1000)), (2, .int (nI (b ^ (e0 / (1000 * 10)) % 10007))), (0, .int (nI b)), (1, .int (nI e0))]) hx hb d_M_raised_11 hl (by decide) rfl (fun ls hl => ?_)
  refine lv_iconst (v := 0) hx hb d_M_raised_13 rfl ?_
  refine lv_istore (lv' := [(5, .int 0), (4, .int (nI (b ^ (e0 / (1000 * 10)) % 10007))), (3, .int (nI 1000)), (2, .int (nI (b ^ (e0 / (1000 * 10)) % 10007))), (0, .int (nI b)), (1, .int (nI e0))]) hx hb d_M_raised_14 hl (by decide) rfl (fun ls hl => ?_)
  have hl : lv_has ls 6 [(5, .int (nI 0)), (4, .int (nI (b ^ (e0 / (1000 * 10)) % 10007))), (3, .int (nI 1000)), (2, .int (nI (b ^ (e0 / (1000 * 10) * (0 + 1)) % 10007))), (0, .int (nI b)), (1, .int (nI e0))] := by rw [Nat.zero_add, Nat.mul_one]; exact lv_sub hl [0, 1, 2, 3, 4, 5] rfl
  refine raised_in1 (t0 := 1000) (k0 := e0 / (1000 * 10)) hx hb hml hown hts (by decide) (by decide) (Nat.zero_le _) (Nat.zero_le _) hb0 (fun ls hl => ?_) 9 0 rfl ls (lv_sub hl [0, 3, 1, 2, 4, 5] rfl)
  refine lv_iconst (v := 0) hx hb d_M_raised_39 rfl ?_
  refine lv_istore (lv' := [(5, .int 0), (2, .int (nI (b ^ (e0 / (1000 * 10) * 10) % 10007))), (3, .int (nI 1000)), (0, .int (nI b)), (1, .int (nI e0))]) hx hb d_M_raised_40 hl (by decide) rfl (fun ls hl => ?_)
  have hl : lv_has ls 6 [(5, .int (nI 0)), (2, .int (nI (b ^ (e0 / (1000 * 10) * 10 + 0) % 10007))), (3, .int (nI 1000)), (0, .int (nI b)), (1, .int (nI e0))] := lv_sub hl [0, 1, 2, 3, 4] rfl
  refine raised_in2 (t0 := 1000) (k0 := e0 / (1000 * 10) * 10) hx hb hml hown hts (by decide) (by decide) (Nat.zero_le _) (Nat.zero_le _) hb0 (by decide) (by decide) (by omega) (fun ls hl => ?_) (e0 / 1000 % 10) 0 (Nat.zero_add _) ls hl
  rw [zp_dig] at hl
  refine lv_iload_n hx hb d_M_raised_68 rfl (lv_at hl 1 rfl) ?_
  refine lv_bipush (v := 10) hx hb d_M_raised_69 rfl ?_
  refine lv_idiv hx hb d_M_raised_71 (by decide) ?_
  refine zz_as (y := nI 100) (by decide) ?_
  refine lv_istore_n (lv' := [(3, .int (nI 100)), (2, .int (nI (b ^ (e0 / 1000) % 10007))), (0, .int (nI b)), (1, .int (nI e0))]) hx hb d_M_raised_72 rfl hl (by decide) rfl (fun ls hl => ?_)
  refine lv_goto (tgt := 6) hx hb d_M_raised_73 rfl ?_
  refine lv_iload_n hx hb d_M_raised_6 rfl (lv_at hl 0 rfl) ?_
  refine lv_if_le (tgt := 76) hx hb d_M_raised_7 rfl (fun h7 => absurd h7 (by decide)) (fun h7 => ?_)
  refine lv_iload_n hx hb d_M_raised_10 rfl (lv_at hl 1 rfl) ?_
  refine lv_istore (lv' := [(4, .int (nI (b ^ (e0 / 1000) % 10007))), (3, .int (nI 100)), (2, .int (nI (b ^ (e0 / 1000) % 10007))), (0, .int (nI b)), (1, .int (nI e0))]) hx hb d_M_raised_11 hl (by decide) rfl (fun ls hl => ?_)
  refine lv_iconst (v := 0) hx hb d_M_raised_13 rfl ?_
  refine lv_istore (lv' := [(5, .int 0), (4, .int (nI (b ^ (e0 / 1000) % 10007))), (3, .int (nI 100)), (2, .int (nI (b ^ (e0 / 1000) % 10007))), (0, .int (nI b)), (1, .int (nI e0))]) hx hb d_M_raised_14 hl (by decide) rfl (fun ls hl => ?_)
  have hl : lv_has ls 6 [(5, .int (nI 0)), (4, .int (nI (b ^ (e0 / (100 * 10)) % 10007))), (3, .int (nI 100)), (2, .int (nI (b ^ (e0 / (100 * 10) * (0 + 1)) % 10007))), (0, .int (nI b)), (1, .int (nI e0))] := by rw [Nat.zero_add, Nat.mul_one]; exact lv_sub hl [0, 1, 2, 3, 4, 5] rfl
  refine raised_in1 (t0 := 100) (k0 := e0 / (100 * 10)) hx hb hml hown hts (by decide) (by decide) (Nat.zero_le _) (Nat.zero_le _) hb0 (fun ls hl => ?_) 9 0 rfl ls (lv_sub hl [0, 3, 1, 2, 4, 5] rfl)
  refine lv_iconst (v := 0) hx hb d_M_raised_39 rfl ?_
  refine lv_istore (lv' := [(5, .int 0), (2, .int (nI (b ^ (e0 / (100 * 10) * 10) % 10007))), (3, .int (nI 100)), (0, .int (nI b)), (1, .int (nI e0))]) hx hb d_M_raised_40 hl (by decide) rfl (fun ls hl => ?_)
  have hl : lv_has ls 6 [(5, .int (nI 0)), (2, .int (nI (b ^ (e0 / (100 * 10) * 10 + 0) % 10007))), (3, .int (nI 100)), (0, .int (nI b)), (1, .int (nI e0))] := lv_sub hl [0, 1, 2, 3, 4] rfl
  refine raised_in2 (t0 := 100) (k0 := e0 / (100 * 10) * 10) hx hb hml hown hts (by decide) (by decide) (Nat.zero_le _) (Nat.zero_le _) hb0 (by decide) (by decide) (by omega) (fun ls hl => ?_) (e0 / 100 % 10) 0 (Nat.zero_add _) ls hl
  rw [zp_dig] at hl
  refine lv_iload_n hx hb d_M_raised_68 rfl (lv_at hl 1 rfl) ?_
  refine lv_bipush (v := 10) hx hb d_M_raised_69 rfl ?_
  refine lv_idiv hx hb d_M_raised_71 (by decide) ?_
  refine zz_as (y := nI 10) (by decide) ?_
  refine lv_istore_n (lv' := [(3, .int (nI 10)), (2, .int (nI (b ^ (e0 / 100) % 10007))), (0, .int (nI b)), (1, .int (nI e0))]) hx hb d_M_raised_72 rfl hl (by decide) rfl (fun ls hl => ?_)
  refine lv_goto (tgt := 6) hx hb d_M_raised_73 rfl ?_
  refine lv_iload_n hx hb d_M_raised_6 rfl (lv_at hl 0 rfl) ?_
  refine lv_if_le (tgt := 76) hx hb d_M_raised_7 rfl (fun h7 => absurd h7 (by decide)) (fun h7 => ?_)
  refine lv_iload_n hx hb d_M_raised_10 rfl (lv_at hl 1 rfl) ?_
  refine lv_istore (lv' := [(4, .int (nI (b ^ (e0 / 100) % 10007))), (3, .int (nI 10)), (2, .int (nI (b ^ (e0 / 100) % 10007))), (0, .int (nI b)), (1, .int (nI e0))]) hx hb d_M_raised_11 hl (by decide) rfl (fun ls hl => ?_)
  refine lv_iconst (v := 0) hx hb d_M_raised_13 rfl ?_
  refine lv_istore (lv' := [(5, .int 0), (4, .int (nI (b ^ (e0 / 100) % 10007))), (3, .int (nI 10)), (2, .int (nI (b ^ (e0 / 100) % 10007))), (0, .int (nI b)), (1, .int (nI e0))]) hx hb d_M_raised_14 hl (by decide) rfl (fun ls hl => ?_)
  have hl : lv_has ls 6 [(5, .int (nI 0)), (4, .int (nI (b ^ (e0 / (10 * 10)) % 10007))), (3, .int (nI 10)), (2, .int (nI (b ^ (e0 / (10 * 10) * (0 + 1)) % 10007))), (0, .int (nI b)), (1, .int (nI e0))] := by rw [Nat.zero_add, Nat.mul_one]; exact lv_sub hl [0, 1, 2, 3, 4, 5] rfl
  refine raised_in1 (t0 := 10) (k0 := e0 / (10 * 10)) hx hb hml hown hts (by decide) (by decide) (Nat.zero_le _) (Nat.zero_le _) hb0 (fun ls hl => ?_) 9 0 rfl ls (lv_sub hl [0, 3, 1, 2, 4, 5] rfl)
  refine lv_iconst (v := 0) hx hb d_M_raised_39 rfl ?_
  refine lv_istore (lv' := [(5, .int 0), (2, .int (nI (b ^ (e0 / (10 * 10) * 10) % 10007))), (3, .int (nI 10)), (0, .int (nI b)), (1, .int (nI e0))]) hx hb d_M_raised_40 hl (by decide) rfl (fun ls hl => ?_)
  have hl : lv_has ls 6 [(5, .int (nI 0)), (2, .int (nI (b ^ (e0 / (10 * 10) * 10 + 0) % 10007))), (3, .int (nI 10)), (0, .int (nI b)), (1, .int (nI e0))] := lv_sub hl [0, 1, 2, 3, 4] rfl
  refine raised_in2 (t0 := 10) (k0 := e0 / (10 * 10) * 10) hx hb hml hown hts (by decide) (by decide) (Nat.zero_le _) (Nat.zero_le _) hb0 (by decide) (by decide) (by omega) (fun ls hl => ?_) (e0 / 10 % 10) 0 (Nat.zero_add _) ls hl
  rw [zp_dig] at hl
  refine lv_iload_n hx hb d_M_raised_68 rfl (lv_at hl 1 rfl) ?_
  refine lv_bipush (v := 10) hx hb d_M_raised_69 rfl ?_
  refine lv_idiv hx hb d_M_raised_71 (by decide) ?_
  refine zz_as (y := nI 1) (by decide) ?_
  refine lv_istore_n (lv' := [(3, .int (nI 1)), (2, .int (nI (b ^ (e0 / 10) % 10007))), (0, .int (nI b)), (1, .int (nI e0))]) hx hb d_M_raised_72 rfl hl (by decide) rfl (fun ls hl => ?_)
  refine lv_goto (tgt := 6) hx hb d_M_raised_73 rfl ?_
  refine lv_iload_n hx hb d_M_raised_6 rfl (lv_at hl 0 rfl) ?_
  refine lv_if_le (tgt := 76) hx hb d_M_raised_7 rfl (fun h7 => absurd h7 (by decide)) (fun h7 => ?_)
  refine lv_iload_n hx hb d_M_raised_10 rfl (lv_at hl 1 rfl) ?_
  refine lv_istore (lv' := [(4, .int (nI (b ^ (e0 / 10) % 10007))), (3, .int (nI 1)), (2, .int (nI (b ^ (e0 / 10) % 10007))), (0, .int (nI b)), (1, .int (nI e0))]) hx hb d_M_raised_11 hl (by decide) rfl (fun ls hl => ?_)
  refine lv_iconst (v := 0) hx hb d_M_raised_13 rfl ?_
  refine lv_istore (lv' := [(5, .int 0), (4, .int (nI (b ^ (e0 / 10) % 10007))), (3, .int (nI 1)), (2, .int (nI (b ^ (e0 / 10) % 10007))), (0, .int (nI b)), (1, .int (nI e0))]) hx hb d_M_raised_14 hl (by decide) rfl (fun ls hl => ?_)
  have hl : lv_has ls 6 [(5, .int (nI 0)), (4, .int (nI (b ^ (e0 / (1 * 10)) % 10007))), (3, .int (nI 1)), (2, .int (nI (b ^ (e0 / (1 * 10) * (0 + 1)) % 10007))), (0, .int (nI b)), (1, .int (nI e0))] := by rw [Nat.zero_add, Nat.mul_one]; exact lv_sub hl [0, 1, 2, 3, 4, 5] rfl
  refine raised_in1 (t0 := 1) (k0 := e0 / (1 * 10)) hx hb hml hown hts (by decide) (by decide) (Nat.zero_le _) (Nat.zero_le _) hb0 (fun ls hl => ?_) 9 0 rfl ls (lv_sub hl [0, 3, 1, 2, 4, 5] rfl)
  refine lv_iconst (v := 0) hx hb d_M_raised_39 rfl ?_
  refine lv_istore (lv' := [(5, .int 0), (2, .int (nI (b ^ (e0 / (1 * 10) * 10) % 10007))), (3, .int (nI 1)), (0, .int (nI b)), (1, .int (nI e0))]) hx hb d_M_raised_40 hl (by decide) rfl (fun ls hl => ?_)
  have hl : lv_has ls 6 [(5, .int (nI 0)), (2, .int (nI (b ^ (e0 / (1 * 10) * 10 + 0) % 10007))), (3, .int (nI 1)), (0, .int (nI b)), (1, .int (nI e0))] := lv_sub hl [0, 1, 2, 3, 4] rfl
  refine raised_in2 (t0 := 1) (k0 := e0 / (1 * 10) * 10) hx hb hml hown hts (by decide) (by decide) (Nat.zero_le _) (Nat.zero_le _) hb0 (by decide) (by decide) (by omega) (fun ls hl => ?_) (e0 / 1 % 10) 0 (Nat.zero_add _) ls hl
  rw [zp_dig] at hl
  refine lv_iload_n hx hb d_M_raised_68 rfl (lv_at hl 1 rfl) ?_
  refine lv_bipush (v := 10) hx hb d_M_raised_69 rfl ?_
  refine lv_idiv hx hb d_M_raised_71 (by decide) ?_
  refine zz_as (y := nI 0) (by decide) ?_
  refine lv_istore_n (lv' := [(3, .int (nI 0)), (2, .int (nI (b ^ (e0 / 1) % 10007))), (0, .int (nI b)), (1, .int (nI e0))]) hx hb d_M_raised_72 rfl hl (by decide) rfl (fun ls hl => ?_)
  refine lv_goto (tgt := 6) hx hb d_M_raised_73 rfl ?_
  refine lv_iload_n hx hb d_M_raised_6 rfl (lv_at hl 0 rfl) ?_
  refine lv_if_le (tgt := 76) hx hb d_M_raised_7 rfl (fun h7 => ?_) (fun h7 => absurd (by decide) h7)
  have hl : lv_has ls 6 [(2, .int (nI (b ^ e0 % 10007)))] := by have q := lv_sub (l' := [(2, .int (nI (b ^ (e0 / 1) % 10007)))]) hl [1] rfl; rwa [Nat.div_one] at q
  refine lv_iload_n hx hb d_M_raised_76 rfl (lv_at hl 0 rfl) ?_
  exact W.iret hx hb hr (fun t ht hW => ⟨rfl, ht⟩) (fun q h => absurd h List.not_mem_nil) d_M_raised_77

theorem d_M_isElement_0 : decode c_M_isElement 0 = .ok (.iload_n 0, 1) := by decide +kernel
theorem d_M_isElement_1 : decode c_M_isElement 1 = .ok (.iconst 1, 1) := by decide +kernel
theorem d_M_isElement_2 : decode c_M_isElement 2 = .ok (.if_icmp .lt 25, 3) := by decide +kernel
theorem d_M_isElement_5 : decode c_M_isElement 5 = .ok (.iload_n 0, 1) := by decide +kernel
theorem d_M_isElement_6 : decode c_M_isElement 6 = .ok (.sipush 10007, 3) := by decide +kernel
theorem d_M_isElement_9 : decode c_M_isElement 9 = .ok (.if_icmp .ge 18, 3) := by decide +kernel
theorem d_M_isElement_12 : decode c_M_isElement 12 = .ok (.iload_n 0, 1) := by decide +kernel
theorem d_M_isElement_13 : decode c_M_isElement 13 = .ok (.sipush 5003, 3) := by decide +kernel
theorem d_M_isElement_16 : decode c_M_isElement 16 = .ok (.invokestatic 96, 3) := by decide +kernel
theorem d_M_isElement_19 : decode c_M_isElement 19 = .ok (.iconst 1, 1) := by decide +kernel
theorem d_M_isElement_20 : decode c_M_isElement 20 = .ok (.if_icmp .ne 7, 3) := by decide +kernel
theorem d_M_isElement_23 : decode c_M_isElement 23 = .ok (.iconst 1, 1) := by decide +kernel
theorem d_M_isElement_24 : decode c_M_isElement 24 = .ok (.goto 4, 3) := by decide +kernel
theorem d_M_isElement_27 : decode c_M_isElement 27 = .ok (.iconst 0, 1) := by decide +kernel
theorem d_M_isElement_28 : decode c_M_isElement 28 = .ok (.ireturn, 1) := by decide +kernel

set_option maxHeartbeats 4000000 in
set_option maxRecDepth 100000 in
/-- is n an element -/
theorem k_isElM (l : Launch) (n : Nat) (hn : n < 2 ^ 32) : Met l y_M_isElement (Cond.code y_M_isElement c_M_isElement 1 (some .boolean) :: zT) ({ frames := 3, cells := 0, slots := 0, locals := 120 }) (fun v _ => v = ([.int (nI n)] : List Value).toArray) (QcRead (zb (el n))) 0 0 (fun _ => False) := by
  refine Met.ofW (cc := c_M_isElement) (maxL := 1) (ret := (some .boolean)) (by decide) rfl ?_
  intro p e s m args below meth c s₁ B hml hv
  subst hv
  have hx := B.exec
  have hb := B.bytes
  have hr := B.returns
  have hts0 := atoms_spec (ws := Cond.code y_M_isElement c_M_isElement 1 (some .boolean) :: zT) B.pre
  have hts := fun w h => hts0 w (List.mem_cons_of_mem _ h)
  have hown : s.vm.findClass R_M = some m.cls := findClass_of_methodNamed B.named
  have hlocks := B.notSynchronized
  have hl := lv_entry ([.int (nI n)]) (n := 1) (Nat.le_of_ble_eq_true rfl)
  rw [lg_entry_eq]
  generalize (lg_sl ([.int (nI n)]) ++ List.replicate (1 - (lg_sl ([.int (nI n)])).length) Slot.unset).toArray = ls at hl ⊢
  have hl : lv_has ls 1 [(0, .int (nI n))] := hl
  refine lv_iload_n hx hb d_M_isElement_0 rfl (lv_at hl 0 rfl) ?_
  refine lv_iconst (v := 1) hx hb d_M_isElement_1 rfl ?_
  refine lv_icmp_lt (tgt := 27) hx hb d_M_isElement_2 rfl (fun h2 => ?_) (fun h2 => ?_)
  · skip
    have hq := el_f1 hn h2
    refine lv_iconst (v := 0) hx hb d_M_isElement_27 rfl ?_
    refine zz_as (y := zb (el n)) (by rw [hq]; rfl) ?_
    exact W.zret hx hb hr (zb_nar _) (fun t ht hW => ⟨rfl, ht⟩) (fun q h => absurd h List.not_mem_nil) d_M_isElement_28
  · skip
    refine lv_iload_n hx hb d_M_isElement_5 rfl (lv_at hl 0 rfl) ?_
    refine lv_sipush (v := 10007) hx hb d_M_isElement_6 rfl ?_
    refine lv_icmp_ge (tgt := 27) hx hb d_M_isElement_9 rfl (fun h9 => ?_) (fun h9 => ?_)
    · skip
      have hq := el_f2 hn h9
      refine lv_iconst (v := 0) hx hb d_M_isElement_27 rfl ?_
      refine zz_as (y := zb (el n)) (by rw [hq]; rfl) ?_
      exact W.zret hx hb hr (zb_nar _) (fun t ht hW => ⟨rfl, ht⟩) (fun q h => absurd h List.not_mem_nil) d_M_isElement_28
    · skip
      have hr0 := el_in hn h2 h9
      refine lv_iload_n hx hb d_M_isElement_12 rfl (lv_at hl 0 rfl) ?_
      refine lv_sipush (v := 5003) hx hb d_M_isElement_13 rfl ?_
      refine zz_cS (index := 96) (n := 2) (As := [.int (nI n), .int 5003]) (rest := []) ⟨hx, hb, hml, hown, hts⟩ (k_raised l n 5003 hr0.2 (by decide)) mk_M_96 ms_M_raised mi_M mc_M_raised (by decide +kernel) ⟨rfl, rfl⟩ ⟨by decide, by decide⟩ preEq rfl hl.1 rfl (Nat.le_of_ble_eq_true rfl) d_M_isElement_16 ⟨Nat.zero_le _, Nat.zero_le _⟩ ?_
      refine lv_iconst (v := 1) hx hb d_M_isElement_19 rfl ?_
      refine lv_icmp_ne (tgt := 27) hx hb d_M_isElement_20 rfl (fun h20 => ?_) (fun h20 => ?_)
      · skip
        have hq := el_f3 h20
        refine lv_iconst (v := 0) hx hb d_M_isElement_27 rfl ?_
        refine zz_as (y := zb (el n)) (by rw [hq]; rfl) ?_
        exact W.zret hx hb hr (zb_nar _) (fun t ht hW => ⟨rfl, ht⟩) (fun q h => absurd h List.not_mem_nil) d_M_isElement_28
      · skip
        have hq := el_t hr0 h20
        refine lv_iconst (v := 1) hx hb d_M_isElement_23 rfl ?_
        refine lv_goto (tgt := 28) hx hb d_M_isElement_24 rfl ?_
        refine zz_as (y := zb (el n)) (by rw [hq]; rfl) ?_
        exact W.zret hx hb hr (zb_nar _) (fun t ht hW => ⟨rfl, ht⟩) (fun q h => absurd h List.not_mem_nil) d_M_isElement_28

theorem d_M_isExponent_0 : decode c_M_isExponent 0 = .ok (.iload_n 0, 1) := by decide +kernel
theorem d_M_isExponent_1 : decode c_M_isExponent 1 = .ok (.ifCond .lt 14, 3) := by decide +kernel
theorem d_M_isExponent_4 : decode c_M_isExponent 4 = .ok (.iload_n 0, 1) := by decide +kernel
theorem d_M_isExponent_5 : decode c_M_isExponent 5 = .ok (.sipush 5003, 3) := by decide +kernel
theorem d_M_isExponent_8 : decode c_M_isExponent 8 = .ok (.if_icmp .ge 7, 3) := by decide +kernel
theorem d_M_isExponent_11 : decode c_M_isExponent 11 = .ok (.iconst 1, 1) := by decide +kernel
theorem d_M_isExponent_12 : decode c_M_isExponent 12 = .ok (.goto 4, 3) := by decide +kernel
theorem d_M_isExponent_15 : decode c_M_isExponent 15 = .ok (.iconst 0, 1) := by decide +kernel
theorem d_M_isExponent_16 : decode c_M_isExponent 16 = .ok (.ireturn, 1) := by decide +kernel

set_option maxHeartbeats 4000000 in
set_option maxRecDepth 100000 in
/-- is n an exponent -/
theorem k_isExM (l : Launch) (n : Nat) (hn : n < 2 ^ 32) : Met l y_M_isExponent (Cond.code y_M_isExponent c_M_isExponent 1 (some .boolean) :: zT) ({ frames := 1, cells := 0, slots := 0, locals := 40 }) (fun v _ => v = ([.int (nI n)] : List Value).toArray) (QcRead (zb (ex n))) 0 0 (fun _ => False) := by
  refine Met.ofW (cc := c_M_isExponent) (maxL := 1) (ret := (some .boolean)) (by decide) rfl ?_
  intro p e s m args below meth c s₁ B hml hv
  subst hv
  have hx := B.exec
  have hb := B.bytes
  have hr := B.returns
  have hts0 := atoms_spec (ws := Cond.code y_M_isExponent c_M_isExponent 1 (some .boolean) :: zT) B.pre
  have hts := fun w h => hts0 w (List.mem_cons_of_mem _ h)
  have hown : s.vm.findClass R_M = some m.cls := findClass_of_methodNamed B.named
  have hlocks := B.notSynchronized
  have hl := lv_entry ([.int (nI n)]) (n := 1) (Nat.le_of_ble_eq_true rfl)
  rw [lg_entry_eq]
  generalize (lg_sl ([.int (nI n)]) ++ List.replicate (1 - (lg_sl ([.int (nI n)])).length) Slot.unset).toArray = ls at hl ⊢
  have hl : lv_has ls 1 [(0, .int (nI n))] := hl
  refine lv_iload_n hx hb d_M_isExponent_0 rfl (lv_at hl 0 rfl) ?_
  refine lv_if_lt (tgt := 15) hx hb d_M_isExponent_1 rfl (fun h1 => ?_) (fun h1 => ?_)
  · skip
    have hq := ex_f1 hn h1
    refine lv_iconst (v := 0) hx hb d_M_isExponent_15 rfl ?_
    refine zz_as (y := zb (ex n)) (by rw [hq]; rfl) ?_
    exact W.zret hx hb hr (zb_nar _) (fun t ht hW => ⟨rfl, ht⟩) (fun q h => absurd h List.not_mem_nil) d_M_isExponent_16
  · skip
    refine lv_iload_n hx hb d_M_isExponent_4 rfl (lv_at hl 0 rfl) ?_
    refine lv_sipush (v := 5003) hx hb d_M_isExponent_5 rfl ?_
    refine lv_icmp_ge (tgt := 15) hx hb d_M_isExponent_8 rfl (fun h8 => ?_) (fun h8 => ?_)
    · skip
      have hq := ex_f2 hn h8
      refine lv_iconst (v := 0) hx hb d_M_isExponent_15 rfl ?_
      refine zz_as (y := zb (ex n)) (by rw [hq]; rfl) ?_
      exact W.zret hx hb hr (zb_nar _) (fun t ht hW => ⟨rfl, ht⟩) (fun q h => absurd h List.not_mem_nil) d_M_isExponent_16
    · skip
      have hq := ex_t hn h1 h8
      refine lv_iconst (v := 1) hx hb d_M_isExponent_11 rfl ?_
      refine lv_goto (tgt := 16) hx hb d_M_isExponent_12 rfl ?_
      refine zz_as (y := zb (ex n)) (by rw [hq]; rfl) ?_
      exact W.zret hx hb hr (zb_nar _) (fun t ht hW => ⟨rfl, ht⟩) (fun q h => absurd h List.not_mem_nil) d_M_isExponent_16

theorem d_M_isBase_0 : decode c_M_isBase 0 = .ok (.iload_n 0, 1) := by decide +kernel
theorem d_M_isBase_1 : decode c_M_isBase 1 = .ok (.iconst 1, 1) := by decide +kernel
theorem d_M_isBase_2 : decode c_M_isBase 2 = .ok (.if_icmp .eq 14, 3) := by decide +kernel
theorem d_M_isBase_5 : decode c_M_isBase 5 = .ok (.iload_n 0, 1) := by decide +kernel
theorem d_M_isBase_6 : decode c_M_isBase 6 = .ok (.invokestatic 100, 3) := by decide +kernel
theorem d_M_isBase_9 : decode c_M_isBase 9 = .ok (.ifCond .eq 7, 3) := by decide +kernel
theorem d_M_isBase_12 : decode c_M_isBase 12 = .ok (.iconst 1, 1) := by decide +kernel
theorem d_M_isBase_13 : decode c_M_isBase 13 = .ok (.goto 4, 3) := by decide +kernel
theorem d_M_isBase_16 : decode c_M_isBase 16 = .ok (.iconst 0, 1) := by decide +kernel
theorem d_M_isBase_17 : decode c_M_isBase 17 = .ok (.ireturn, 1) := by decide +kernel

set_option maxHeartbeats 4000000 in
set_option maxRecDepth 100000 in
/-- is b a base -/
theorem k_isBase (l : Launch) (b : Nat) (hb0 : b < 2 ^ 32) : Met l y_M_isBase (Cond.code y_M_isBase c_M_isBase 1 (some .boolean) :: zT) ({ frames := 4, cells := 0, slots := 0, locals := 160 }) (fun v _ => v = ([.int (nI b)] : List Value).toArray) (QcRead (zb (bs b))) 0 0 (fun _ => False) := by
  refine Met.ofW (cc := c_M_isBase) (maxL := 1) (ret := (some .boolean)) (by decide) rfl ?_
  intro p e s m args below meth c s₁ B hml hv
  subst hv
  have hx := B.exec
  have hb := B.bytes
  have hr := B.returns
  have hts0 := atoms_spec (ws := Cond.code y_M_isBase c_M_isBase 1 (some .boolean) :: zT) B.pre
  have hts := fun w h => hts0 w (List.mem_cons_of_mem _ h)
  have hown : s.vm.findClass R_M = some m.cls := findClass_of_methodNamed B.named
  have hlocks := B.notSynchronized
  have hl := lv_entry ([.int (nI b)]) (n := 1) (Nat.le_of_ble_eq_true rfl)
  rw [lg_entry_eq]
  generalize (lg_sl ([.int (nI b)]) ++ List.replicate (1 - (lg_sl ([.int (nI b)])).length) Slot.unset).toArray = ls at hl ⊢
  have hl : lv_has ls 1 [(0, .int (nI b))] := hl
  refine lv_iload_n hx hb d_M_isBase_0 rfl (lv_at hl 0 rfl) ?_
  refine lv_iconst (v := 1) hx hb d_M_isBase_1 rfl ?_
  refine lv_icmp_eq (tgt := 16) hx hb d_M_isBase_2 rfl (fun h2 => ?_) (fun h2 => ?_)
  · skip
    have hb1 : b = 1 := (zn_inj hb0 (by decide)).mp h2
    have hq : bs b = false := by unfold bs; rw [decide_eq_true hb1]; rfl
    refine lv_iconst (v := 0) hx hb d_M_isBase_16 rfl ?_
    refine zz_as (y := zb (bs b)) (by rw [hq]; rfl) ?_
    exact W.zret hx hb hr (zb_nar _) (fun t ht hW => ⟨rfl, ht⟩) (fun q h => absurd h List.not_mem_nil) d_M_isBase_17
  · skip
    have hb1 : ¬ b = 1 := fun q => h2 (by rw [q]; rfl)
    refine lv_iload_n hx hb d_M_isBase_5 rfl (lv_at hl 0 rfl) ?_
    refine zz_cS (index := 100) (n := 1) (As := [.int (nI b)]) (rest := []) ⟨hx, hb, hml, hown, hts⟩ (k_isElM l b hb0) mk_M_100 ms_M_isElement mi_M mc_M_isElement (by decide +kernel) ⟨rfl, rfl⟩ ⟨by decide, by decide⟩ preEq rfl hl.1 rfl (Nat.le_of_ble_eq_true rfl) d_M_isBase_6 ⟨Nat.zero_le _, Nat.zero_le _⟩ ?_
    refine lv_if_eq (tgt := 16) hx hb d_M_isBase_9 rfl (fun h9 => ?_) (fun h9 => ?_)
    · skip
      have hq : bs b = false := by unfold bs; rw [zb_eq h9, Bool.and_false]
      refine lv_iconst (v := 0) hx hb d_M_isBase_16 rfl ?_
      refine zz_as (y := zb (bs b)) (by rw [hq]; rfl) ?_
      exact W.zret hx hb hr (zb_nar _) (fun t ht hW => ⟨rfl, ht⟩) (fun q h => absurd h List.not_mem_nil) d_M_isBase_17
    · skip
      have hq : bs b = true := by unfold bs; rw [decide_eq_false hb1, zb_ne h9]; rfl
      refine lv_iconst (v := 1) hx hb d_M_isBase_12 rfl ?_
      refine lv_goto (tgt := 17) hx hb d_M_isBase_13 rfl ?_
      refine zz_as (y := zb (bs b)) (by rw [hq]; rfl) ?_
      exact W.zret hx hb hr (zb_nar _) (fun t ht hW => ⟨rfl, ht⟩) (fun q h => absurd h List.not_mem_nil) d_M_isBase_17

theorem d_M_less_0 : decode c_M_less 0 = .ok (.iload_n 0, 1) := by decide +kernel
theorem d_M_less_1 : decode c_M_less 1 = .ok (.iload_n 1, 1) := by decide +kernel
theorem d_M_less_2 : decode c_M_less 2 = .ok (.isub, 1) := by decide +kernel
theorem d_M_less_3 : decode c_M_less 3 = .ok (.sipush 5003, 3) := by decide +kernel
theorem d_M_less_6 : decode c_M_less 6 = .ok (.iadd, 1) := by decide +kernel
theorem d_M_less_7 : decode c_M_less 7 = .ok (.sipush 5003, 3) := by decide +kernel
theorem d_M_less_10 : decode c_M_less 10 = .ok (.irem, 1) := by decide +kernel
theorem d_M_less_11 : decode c_M_less 11 = .ok (.ireturn, 1) := by decide +kernel

set_option maxHeartbeats 4000000 in
set_option maxRecDepth 100000 in
/-- a - b, modulo 5003 -/
theorem k_less (l : Launch) (a b : Nat) (ha : a < 5003) (hb0 : b < 5003) : Met l y_M_less (Cond.code y_M_less c_M_less 2 (some .int) :: zT) ({ frames := 1, cells := 0, slots := 0, locals := 40 }) (fun v _ => v = ([.int (nI a), .int (nI b)] : List Value).toArray) (QcRead (nI (ls5 a b))) 0 0 (fun _ => False) := by
  refine Met.ofW (cc := c_M_less) (maxL := 2) (ret := (some .int)) (by decide) rfl ?_
  intro p e s m args below meth c s₁ B hml hv
  subst hv
  have hx := B.exec
  have hb := B.bytes
  have hr := B.returns
  have hts0 := atoms_spec (ws := Cond.code y_M_less c_M_less 2 (some .int) :: zT) B.pre
  have hts := fun w h => hts0 w (List.mem_cons_of_mem _ h)
  have hown : s.vm.findClass R_M = some m.cls := findClass_of_methodNamed B.named
  have hlocks := B.notSynchronized
  have hl := lv_entry ([.int (nI a), .int (nI b)]) (n := 2) (Nat.le_of_ble_eq_true rfl)
  rw [lg_entry_eq]
  generalize (lg_sl ([.int (nI a), .int (nI b)]) ++ List.replicate (2 - (lg_sl ([.int (nI a), .int (nI b)])).length) Slot.unset).toArray = ls at hl ⊢
  have hl : lv_has ls 2 [(0, .int (nI a)), (1, .int (nI b))] := hl
  refine lv_iload_n hx hb d_M_less_0 rfl (lv_at hl 0 rfl) ?_
  refine lv_iload_n hx hb d_M_less_1 rfl (lv_at hl 1 rfl) ?_
  refine lv_isub hx hb d_M_less_2 ?_
  refine lv_sipush (v := 5003) hx hb d_M_less_3 rfl ?_
  refine lv_iadd hx hb d_M_less_6 ?_
  refine zz_as (y := nI (a + 5003 - b)) (zn_sub5 (by omega)) ?_
  refine lv_sipush (v := 5003) hx hb d_M_less_7 rfl ?_
  refine lv_irem hx hb d_M_less_10 (by decide) ?_
  refine zz_as (y := nI (ls5 a b)) (pk_rem (d := 5003) (by omega) (by decide) (by decide)) ?_
  exact W.iret hx hb hr (fun t ht hW => ⟨rfl, ht⟩) (fun q h => absurd h List.not_mem_nil) d_M_less_11

theorem d_M_inverse_0 : decode c_M_inverse 0 = .ok (.iconst 1, 1) := by decide +kernel
theorem d_M_inverse_1 : decode c_M_inverse 1 = .ok (.istore_n 1, 1) := by decide +kernel
theorem d_M_inverse_2 : decode c_M_inverse 2 = .ok (.iconst 0, 1) := by decide +kernel
theorem d_M_inverse_3 : decode c_M_inverse 3 = .ok (.istore_n 2, 1) := by decide +kernel
theorem d_M_inverse_4 : decode c_M_inverse 4 = .ok (.iload_n 2, 1) := by decide +kernel
theorem d_M_inverse_5 : decode c_M_inverse 5 = .ok (.sipush 5001, 3) := by decide +kernel
theorem d_M_inverse_8 : decode c_M_inverse 8 = .ok (.if_icmp .ge 18, 3) := by decide +kernel
theorem d_M_inverse_11 : decode c_M_inverse 11 = .ok (.iload_n 1, 1) := by decide +kernel
theorem d_M_inverse_12 : decode c_M_inverse 12 = .ok (.iload_n 0, 1) := by decide +kernel
theorem d_M_inverse_13 : decode c_M_inverse 13 = .ok (.sipush 5003, 3) := by decide +kernel
theorem d_M_inverse_16 : decode c_M_inverse 16 = .ok (.invokestatic 92, 3) := by decide +kernel
theorem d_M_inverse_19 : decode c_M_inverse 19 = .ok (.istore_n 1, 1) := by decide +kernel
theorem d_M_inverse_20 : decode c_M_inverse 20 = .ok (.iinc 2 1, 3) := by decide +kernel
theorem d_M_inverse_23 : decode c_M_inverse 23 = .ok (.goto (-19), 3) := by decide +kernel
theorem d_M_inverse_26 : decode c_M_inverse 26 = .ok (.iload_n 1, 1) := by decide +kernel
theorem d_M_inverse_27 : decode c_M_inverse 27 = .ok (.ireturn, 1) := by decide +kernel

section MI
variable {p : Program} {l : Launch} {e : Env} {R : Room} {s : State} {m : MethodId} {args : Array Value} {below : List Frame} {meth : Method} {c : Code} {H H0 : Heap} {locs : List Loc} {cells slots : Nat} {Q : State → Prop} {A : Nat → Prop}
set_option maxHeartbeats 4000000 in
set_option maxRecDepth 100000 in
theorem inverse_loop (hx : p.tables.exec = Jvm.exec) (hb : c.code = c_M_inverse) (hml : c.maxLocals = 3) (hown : s.vm.findClass R_M = some m.cls) (hts : ∀ w ∈ zT, w.before args s = true) (hRf : 2 ≤ R.frames) (hRl : 80 ≤ R.locals) (hc : cells ≤ R.cells) (hsl : slots ≤ R.slots) {d : Nat} (hd : d < 5003) (kk : ∀ ls : Array Slot, lv_has ls 3 [(1, .int (nI (d ^ 5001 % 5003)))] → W p l e R s m args below meth c H locs cells slots Q (F0 m 26 ls [])) : ∀ (j i : Nat), i + j = 5001 → ∀ ls : Array Slot, lv_has ls 3 [(2, .int (nI i)), (1, .int (nI (d ^ i % 5003))), (0, .int (nI d))] → W p l e R s m args below meth c H locs cells slots Q (F0 m 4 ls []) := by
  intro j
  induction j with
  | zero =>
    intro i hi ls hl
    obtain rfl : i = 5001 := by omega
    refine lv_iload_n hx hb d_M_inverse_4 rfl (lv_at hl 0 rfl) ?_
    refine lv_sipush (v := 5001) hx hb d_M_inverse_5 rfl ?_
    refine lv_icmp_ge (tgt := 26) hx hb d_M_inverse_8 rfl (fun h8 => ?_) (fun h8 => absurd (by decide) h8)
    have hl := lv_sub (l' := [(1, .int (nI (d ^ 5001 % 5003)))]) hl [1] rfl
    exact kk ls hl
  | succ j ih =>
    intro i hi ls hl
    have hx0 : d ^ i % 5003 < 5003 := Nat.mod_lt _ (by decide)
    refine lv_iload_n hx hb d_M_inverse_4 rfl (lv_at hl 0 rfl) ?_
    refine lv_sipush (v := 5001) hx hb d_M_inverse_5 rfl ?_
    refine lv_icmp_ge (tgt := 26) hx hb d_M_inverse_8 rfl (fun h8 => absurd h8 (nI_ge (b := 5001) (by omega) (by decide))) (fun h8 => ?_)
    refine lv_iload_n hx hb d_M_inverse_11 rfl (lv_at hl 1 rfl) ?_
    refine lv_iload_n hx hb d_M_inverse_12 rfl (lv_at hl 2 rfl) ?_
    refine lv_sipush (v := 5003) hx hb d_M_inverse_13 rfl ?_
    refine zz_cS (index := 92) (n := 3) (As := [.int (nI (d ^ i % 5003)), .int (nI d), .int 5003]) (rest := []) ⟨hx, hb, hml, hown, hts⟩ (k_times l (d ^ i % 5003) d 5003 (by omega) (by omega) (by decide) (by decide)) mk_M_92 ms_M_times mi_M mc_M_times (by decide +kernel) ⟨rfl, rfl⟩ ⟨hRf, Nat.le_trans (by decide) hRl⟩ preEq rfl hl.1 rfl (Nat.le_of_ble_eq_true rfl) d_M_inverse_16 ⟨hc, hsl⟩ ?_
    refine zz_as (y := nI (d ^ (i + 1) % 5003)) (congrArg nI (zp_mul ..)) ?_
    refine lv_istore_n (lv' := [(1, .int (nI (d ^ (i + 1) % 5003))), (2, .int (nI i)), (0, .int (nI d))]) hx hb d_M_inverse_19 rfl hl (by decide) rfl (fun ls hl => ?_)
    refine lv_iinc (k := 1) (v := (nI i) + 1) (lv' := [(2, .int ((nI i) + 1)), (1, .int (nI (d ^ (i + 1) % 5003))), (0, .int (nI d))]) hx hb d_M_inverse_20 hl rfl rfl (by decide) rfl (fun ls hl => ?_)
    rw [nI_1] at hl
    refine lv_goto (tgt := 4) hx hb d_M_inverse_23 rfl ?_
    have hl := lv_sub (l' := [(2, .int (nI (i + 1))), (1, .int (nI (d ^ (i + 1) % 5003))), (0, .int (nI d))]) hl [0, 1, 2] rfl
    exact ih (i + 1) (by omega) ls hl
end MI

set_option maxHeartbeats 4000000 in
set_option maxRecDepth 100000 in
/-- d to the 5001, modulo 5003 -/
theorem k_inverse (l : Launch) (d : Nat) (hd : d < 5003) : Met l y_M_inverse (Cond.code y_M_inverse c_M_inverse 3 (some .int) :: zT) ({ frames := 2, cells := 0, slots := 0, locals := 80 }) (fun v _ => v = ([.int (nI d)] : List Value).toArray) (QcRead (nI (d ^ 5001 % 5003))) 0 0 (fun _ => False) := by
  refine Met.ofW (cc := c_M_inverse) (maxL := 3) (ret := (some .int)) (by decide) rfl ?_
  intro p e s m args below meth c s₁ B hml hv
  subst hv
  have hx := B.exec
  have hb := B.bytes
  have hr := B.returns
  have hts0 := atoms_spec (ws := Cond.code y_M_inverse c_M_inverse 3 (some .int) :: zT) B.pre
  have hts := fun w h => hts0 w (List.mem_cons_of_mem _ h)
  have hown : s.vm.findClass R_M = some m.cls := findClass_of_methodNamed B.named
  have hlocks := B.notSynchronized
  have hl := lv_entry ([.int (nI d)]) (n := 3) (Nat.le_of_ble_eq_true rfl)
  rw [lg_entry_eq]
  generalize (lg_sl ([.int (nI d)]) ++ List.replicate (3 - (lg_sl ([.int (nI d)])).length) Slot.unset).toArray = ls at hl ⊢
  have hl : lv_has ls 3 [(0, .int (nI d))] := hl
  refine lv_iconst (v := 1) hx hb d_M_inverse_0 rfl ?_
  refine lv_istore_n (lv' := [(1, .int 1), (0, .int (nI d))]) hx hb d_M_inverse_1 rfl hl (by decide) rfl (fun ls hl => ?_)
  refine lv_iconst (v := 0) hx hb d_M_inverse_2 rfl ?_
  refine lv_istore_n (lv' := [(2, .int 0), (1, .int 1), (0, .int (nI d))]) hx hb d_M_inverse_3 rfl hl (by decide) rfl (fun ls hl => ?_)
  have hl : lv_has ls 3 [(2, .int (nI 0)), (1, .int (nI (d ^ 0 % 5003))), (0, .int (nI d))] := hl
  refine inverse_loop hx hb hml hown hts (by decide) (by decide) (Nat.zero_le _) (Nat.zero_le _) hd (fun ls hl => ?_) 5001 0 rfl ls hl
  refine lv_iload_n hx hb d_M_inverse_26 rfl (lv_at hl 0 rfl) ?_
  exact W.iret hx hb hr (fun t ht hW => ⟨rfl, ht⟩) (fun q h => absurd h List.not_mem_nil) d_M_inverse_27
end
section
/-! the model's small methods -/
theorem dr_lt (st : Nat) : dr st < 2 ^ 32 := Nat.mod_lt _ (by decide)
def mpush (ar : Nat → Nat → Nat) (k b y d w : Nat) : Nat → Nat → Nat := zs (zs (zs (zs (zs (zs (zs ar 1 (ar 6 (ar 0 0)) k) 2 (ar 6 (ar 0 0)) b) 3 (ar 6 (ar 0 0)) y) 4 (ar 6 (ar 0 0)) d) 5 (ar 6 (ar 0 0)) w) 0 0 (ar 0 0 + 1)) 6 (ar 0 0 + 1) (ar 6 (ar 0 0) + 1)
def fitn (ar : Nat → Nat → Nat) (n x : Nat) : Bool := decide (ar 11 (2 * n) ^ x % 10007 = ar 12 (2 * n)) && (!decide (0 < ar 11 (2 * n + 1)) || decide (ar 11 (2 * n + 1) ^ x % 10007 = ar 12 (2 * n + 1)))
def tellB (ar : Nat → Nat → Nat) (n x : Nat) : Bool := decide (n < ar 0 2) && (ex x && fitn ar n x)
def pairB (ar : Nat → Nat → Nat) (n p : Nat) : Bool := decide (n < ar 0 2) && decide (0 < ar 11 (2 * n + p))
def partB (ar : Nat → Nat → Nat) (n w : Nat) : Bool := decide (n < ar 0 2) && (decide (w < 4) && (!decide (w = 1) || pairB ar n 1))
theorem lit_a : (1103515245 : Int32) = nI 1103515245 := rfl
theorem lit_c : (12345 : Int32) = nI 12345 := rfl
theorem dr_n (st : Nat) : nI st * 1103515245 + 12345 = nI (dr st) := by
  rw [lit_a, lit_c, pk_mul, nI_add]
  unfold dr
  rw [show (4294967296 : Nat) = 2 ^ 32 from rfl, zn_mod]
theorem dv_s {n : Nat} (h : n < 2 ^ 32) : ((nI n).toUInt32 >>> ((8 : Int32).toUInt32 &&& Int32.toUInt32 31)).toInt32 = nI (n / 256) := by
  rw [pk_ushrN h 8 8 (by decide)]
theorem dv_n {n : Nat} (h : n < 2 ^ 32) : nI (n / 256) - nI (n / 256) / 5003 * 5003 = nI (dv n) := by
  unfold dv
  exact pk_rem (d := 5003) (by omega) (by decide) (by decide)
theorem zdf {P : Prop} {h : Decidable P} (q : ¬ P) : (@decide P h) = false := decide_eq_false q
theorem zdt {P : Prop} {h : Decidable P} (q : P) : (@decide P h) = true := decide_eq_true q

theorem d_M_draw_0 : decode c_M_draw 0 = .ok (.aload_n 0, 1) := by decide +kernel
theorem d_M_draw_1 : decode c_M_draw 1 = .ok (.aload_n 0, 1) := by decide +kernel
theorem d_M_draw_2 : decode c_M_draw 2 = .ok (.getfield 104, 3) := by decide +kernel
theorem d_M_draw_5 : decode c_M_draw 5 = .ok (.ldc 108, 2) := by decide +kernel
theorem d_M_draw_7 : decode c_M_draw 7 = .ok (.imul, 1) := by decide +kernel
theorem d_M_draw_8 : decode c_M_draw 8 = .ok (.sipush 12345, 3) := by decide +kernel
theorem d_M_draw_11 : decode c_M_draw 11 = .ok (.iadd, 1) := by decide +kernel
theorem d_M_draw_12 : decode c_M_draw 12 = .ok (.putfield 104, 3) := by decide +kernel
theorem d_M_draw_15 : decode c_M_draw 15 = .ok (.aload_n 0, 1) := by decide +kernel
theorem d_M_draw_16 : decode c_M_draw 16 = .ok (.getfield 104, 3) := by decide +kernel
theorem d_M_draw_19 : decode c_M_draw 19 = .ok (.bipush 8, 2) := by decide +kernel
theorem d_M_draw_21 : decode c_M_draw 21 = .ok (.iushr, 1) := by decide +kernel
theorem d_M_draw_22 : decode c_M_draw 22 = .ok (.sipush 5003, 3) := by decide +kernel
theorem d_M_draw_25 : decode c_M_draw 25 = .ok (.irem, 1) := by decide +kernel
theorem d_M_draw_26 : decode c_M_draw 26 = .ok (.ireturn, 1) := by decide +kernel

set_option maxHeartbeats 4000000 in
set_option maxRecDepth 100000 in
/-- draw() -/
theorem k_drawM (l : Launch) (D : va_G) (ca : Nat → ClassId) (am : Nat → Nat) (ar : Nat → Nat → Nat) (hI : mI am) : Met l y_M_draw (Cond.code y_M_draw c_M_draw 1 (some .int) :: zT) ({ frames := 1, cells := 0, slots := 0, locals := 40 }) (va_Pc [.ref (am 0)] (mw D ca am ar)) (va_Qi (fun r ar1 => r = nI (dv (dr (ar 0 5))) ∧ ar1 = zs ar 0 5 (dr (ar 0 5))) (mw D ca am) (mA am)) 0 0 (mA am) := by
  refine Met.ofW (cc := c_M_draw) (maxL := 1) (ret := (some .int)) (by decide) rfl ?_
  intro p e s m args below meth c s₁ B hml hv
  obtain ⟨rfl, hK, hP⟩ := hv
  have hx := B.exec
  have hb := B.bytes
  have hr := B.returns
  have hts0 := atoms_spec (ws := Cond.code y_M_draw c_M_draw 1 (some .int) :: zT) B.pre
  have hts := fun w h => hts0 w (List.mem_cons_of_mem _ h)
  have hown : s.vm.findClass R_M = some m.cls := findClass_of_methodNamed B.named
  have hlocks := B.notSynchronized
  have hD := mI_D hI
  have hS : va_S (mA am) s.heap s.heap [] := va_S.rf
  have hAA : ∀ q, mA am q → mA am q := fun _ h => h
  have hl := lv_entry ([.ref (am 0)]) (n := 1) (Nat.le_of_ble_eq_true rfl)
  rw [lg_entry_eq]
  generalize (lg_sl ([.ref (am 0)]) ++ List.replicate (1 - (lg_sl ([.ref (am 0)])).length) Slot.unset).toArray = ls at hl ⊢
  have hl : lv_has ls 1 [(0, .ref (am 0))] := hl
  skip
  refine lv_aload_n hx hb d_M_draw_0 rfl (lv_at hl 0 rfl) ?_
  refine lv_aload_n hx hb d_M_draw_1 rfl (lv_at hl 0 rfl) ?_
  refine mm_get hx hb hts hown hK hP (index := 104) 32 (by decide) mf_M_104 (v := .int (nI (ar 0 5))) rfl d_M_draw_2 ?_
  refine lv_ldc (v := 1103515245) hx hb hown (hts _ mn_M_108) d_M_draw_5 ?_
  refine lv_imul hx hb d_M_draw_7 ?_
  refine lv_sipush (v := 12345) hx hb d_M_draw_8 rfl ?_
  refine lv_iadd hx hb d_M_draw_11 ?_
  obtain ⟨d0, hd0⟩ : ∃ d, dr (ar 0 5) = d := ⟨_, rfl⟩
  have hlt : d0 < 2 ^ 32 := by rw [← hd0]; exact dr_lt _
  refine zz_as (y := nI d0) (by rw [dr_n, hd0]) ?_
  refine mm_put hx hb hts hown hK hP hD hS (index := 104) 5 (by decide) mf_M_104 (d0) (rfl) rfl rfl d_M_draw_12 (fun H locs hP hS => ?_)
  refine lv_aload_n hx hb d_M_draw_15 rfl (lv_at hl 0 rfl) ?_
  refine mm_get hx hb hts hown hK hP (index := 104) 32 (by decide) mf_M_104 (v := .int (nI d0)) rfl d_M_draw_16 ?_
  refine lv_bipush (v := 8) hx hb d_M_draw_19 rfl ?_
  refine lv_iushr hx hb d_M_draw_21 rfl ?_
  refine zz_as (y := nI (d0 / 256)) (dv_s hlt) ?_
  refine lv_sipush (v := 5003) hx hb d_M_draw_22 rfl ?_
  refine lv_irem hx hb d_M_draw_25 (by decide) ?_
  refine zz_as (y := nI (dv d0)) (dv_n hlt) ?_
  exact W.iret hx hb hr (fun t ht hW => ⟨⟨_, zs ar 0 5 d0, rfl, ⟨by rw [hd0], by rw [hd0]⟩, va_K.moved hW.alike hK, by rw [ht]; exact hP⟩, hS.F ht⟩) hS.2.2 d_M_draw_26

theorem d_M_power_0 : decode c_M_power 0 = .ok (.iload_n 1, 1) := by decide +kernel
theorem d_M_power_1 : decode c_M_power 1 = .ok (.invokestatic 100, 3) := by decide +kernel
theorem d_M_power_4 : decode c_M_power 4 = .ok (.ifCond .eq 18, 3) := by decide +kernel
theorem d_M_power_7 : decode c_M_power 7 = .ok (.iload_n 2, 1) := by decide +kernel
theorem d_M_power_8 : decode c_M_power 8 = .ok (.invokestatic 109, 3) := by decide +kernel
theorem d_M_power_11 : decode c_M_power 11 = .ok (.ifCond .eq 11, 3) := by decide +kernel
theorem d_M_power_14 : decode c_M_power 14 = .ok (.iload_n 1, 1) := by decide +kernel
theorem d_M_power_15 : decode c_M_power 15 = .ok (.iload_n 2, 1) := by decide +kernel
theorem d_M_power_16 : decode c_M_power 16 = .ok (.invokestatic 96, 3) := by decide +kernel
theorem d_M_power_19 : decode c_M_power 19 = .ok (.goto 4, 3) := by decide +kernel
theorem d_M_power_22 : decode c_M_power 22 = .ok (.iconst (-1), 1) := by decide +kernel
theorem d_M_power_23 : decode c_M_power 23 = .ok (.ireturn, 1) := by decide +kernel

set_option maxHeartbeats 4000000 in
set_option maxRecDepth 100000 in
/-- power(b, e) -/
theorem k_powerM (l : Launch) (D : va_G) (ca : Nat → ClassId) (am : Nat → Nat) (ar : Nat → Nat → Nat) (b e0 : Nat) (hb0 : b < 2 ^ 32) (he0 : e0 < 2 ^ 32) : Met l y_M_power (Cond.code y_M_power c_M_power 3 (some .int) :: zT) ({ frames := 5, cells := 0, slots := 0, locals := 200 }) (va_Pc [.ref (am 0), .int (nI b), .int (nI e0)] (mw D ca am ar)) (QcRead (if el b && ex e0 then nI (b ^ e0 % 10007) else -1)) 0 0 (fun _ => False) := by
  refine Met.ofW (cc := c_M_power) (maxL := 3) (ret := (some .int)) (by decide) rfl ?_
  intro p e s m args below meth c s₁ B hml hv
  obtain ⟨rfl, hK, hP⟩ := hv
  have hx := B.exec
  have hb := B.bytes
  have hr := B.returns
  have hts0 := atoms_spec (ws := Cond.code y_M_power c_M_power 3 (some .int) :: zT) B.pre
  have hts := fun w h => hts0 w (List.mem_cons_of_mem _ h)
  have hown : s.vm.findClass R_M = some m.cls := findClass_of_methodNamed B.named
  have hlocks := B.notSynchronized
  have hl := lv_entry ([.ref (am 0), .int (nI b), .int (nI e0)]) (n := 3) (Nat.le_of_ble_eq_true rfl)
  rw [lg_entry_eq]
  generalize (lg_sl ([.ref (am 0), .int (nI b), .int (nI e0)]) ++ List.replicate (3 - (lg_sl ([.ref (am 0), .int (nI b), .int (nI e0)])).length) Slot.unset).toArray = ls at hl ⊢
  have hl : lv_has ls 3 [(0, .ref (am 0)), (1, .int (nI b)), (2, .int (nI e0))] := hl
  refine lv_iload_n hx hb d_M_power_0 rfl (lv_at hl 1 rfl) ?_
  refine zz_cS (index := 100) (n := 1) (As := [.int (nI b)]) (rest := []) ⟨hx, hb, hml, hown, hts⟩ (k_isElM l b hb0) mk_M_100 ms_M_isElement mi_M mc_M_isElement (by decide +kernel) ⟨rfl, rfl⟩ ⟨by decide, by decide⟩ preEq rfl hl.1 rfl (Nat.le_of_ble_eq_true rfl) d_M_power_1 ⟨Nat.zero_le _, Nat.zero_le _⟩ ?_
  refine lv_if_eq (tgt := 22) hx hb d_M_power_4 rfl (fun h4 => ?_) (fun h4 => ?_)
  · skip
    have hq : (el b && ex e0) = false := by rw [zb_eq h4]; rfl
    refine lv_iconst (v := (-1)) hx hb d_M_power_22 rfl ?_
    refine zz_as (y := if el b && ex e0 then nI (b ^ e0 % 10007) else -1) (by rw [hq]; rfl) ?_
    exact W.iret hx hb hr (fun t ht hW => ⟨rfl, ht⟩) (fun q h => absurd h List.not_mem_nil) d_M_power_23
  · skip
    refine lv_iload_n hx hb d_M_power_7 rfl (lv_at hl 2 rfl) ?_
    refine zz_cS (index := 109) (n := 1) (As := [.int (nI e0)]) (rest := []) ⟨hx, hb, hml, hown, hts⟩ (k_isExM l e0 he0) mk_M_109 ms_M_isExponent mi_M mc_M_isExponent (by decide +kernel) ⟨rfl, rfl⟩ ⟨by decide, by decide⟩ preEq rfl hl.1 rfl (Nat.le_of_ble_eq_true rfl) d_M_power_8 ⟨Nat.zero_le _, Nat.zero_le _⟩ ?_
    refine lv_if_eq (tgt := 22) hx hb d_M_power_11 rfl (fun h11 => ?_) (fun h11 => ?_)
    · skip
      have hq : (el b && ex e0) = false := by rw [zb_eq h11, Bool.and_false]
      refine lv_iconst (v := (-1)) hx hb d_M_power_22 rfl ?_
      refine zz_as (y := if el b && ex e0 then nI (b ^ e0 % 10007) else -1) (by rw [hq]; rfl) ?_
      exact W.iret hx hb hr (fun t ht hW => ⟨rfl, ht⟩) (fun q h => absurd h List.not_mem_nil) d_M_power_23
    · skip
      have hq : (el b && ex e0) = true := by rw [zb_ne h4, zb_ne h11]; rfl
      have hr0 := (el_is (zb_ne h4)).2.1
      have hr1 := ex_is (zb_ne h11)
      refine lv_iload_n hx hb d_M_power_14 rfl (lv_at hl 1 rfl) ?_
      refine lv_iload_n hx hb d_M_power_15 rfl (lv_at hl 2 rfl) ?_
      refine zz_cS (index := 96) (n := 2) (As := [.int (nI b), .int (nI e0)]) (rest := []) ⟨hx, hb, hml, hown, hts⟩ (k_raised l b e0 hr0 (by omega)) mk_M_96 ms_M_raised mi_M mc_M_raised (by decide +kernel) ⟨rfl, rfl⟩ ⟨by decide, by decide⟩ preEq rfl hl.1 rfl (Nat.le_of_ble_eq_true rfl) d_M_power_16 ⟨Nat.zero_le _, Nat.zero_le _⟩ ?_
      refine lv_goto (tgt := 23) hx hb d_M_power_19 rfl ?_
      refine zz_as (y := if el b && ex e0 then nI (b ^ e0 % 10007) else -1) (by rw [hq]; rfl) ?_
      exact W.iret hx hb hr (fun t ht hW => ⟨rfl, ht⟩) (fun q h => absurd h List.not_mem_nil) d_M_power_23

theorem d_M_push_0 : decode c_M_push 0 = .ok (.aload_n 0, 1) := by decide +kernel
theorem d_M_push_1 : decode c_M_push 1 = .ok (.getfield 25, 3) := by decide +kernel
theorem d_M_push_4 : decode c_M_push 4 = .ok (.aload_n 0, 1) := by decide +kernel
theorem d_M_push_5 : decode c_M_push 5 = .ok (.getfield 112, 3) := by decide +kernel
theorem d_M_push_8 : decode c_M_push 8 = .ok (.iaload, 1) := by decide +kernel
theorem d_M_push_9 : decode c_M_push 9 = .ok (.istore 6, 2) := by decide +kernel
theorem d_M_push_11 : decode c_M_push 11 = .ok (.aload_n 0, 1) := by decide +kernel
theorem d_M_push_12 : decode c_M_push 12 = .ok (.getfield 7, 3) := by decide +kernel
theorem d_M_push_15 : decode c_M_push 15 = .ok (.iload 6, 2) := by decide +kernel
theorem d_M_push_17 : decode c_M_push 17 = .ok (.iload_n 1, 1) := by decide +kernel
theorem d_M_push_18 : decode c_M_push 18 = .ok (.iastore, 1) := by decide +kernel
theorem d_M_push_19 : decode c_M_push 19 = .ok (.aload_n 0, 1) := by decide +kernel
theorem d_M_push_20 : decode c_M_push 20 = .ok (.getfield 13, 3) := by decide +kernel
theorem d_M_push_23 : decode c_M_push 23 = .ok (.iload 6, 2) := by decide +kernel
theorem d_M_push_25 : decode c_M_push 25 = .ok (.iload_n 2, 1) := by decide +kernel
theorem d_M_push_26 : decode c_M_push 26 = .ok (.iastore, 1) := by decide +kernel
theorem d_M_push_27 : decode c_M_push 27 = .ok (.aload_n 0, 1) := by decide +kernel
theorem d_M_push_28 : decode c_M_push 28 = .ok (.getfield 16, 3) := by decide +kernel
theorem d_M_push_31 : decode c_M_push 31 = .ok (.iload 6, 2) := by decide +kernel
theorem d_M_push_33 : decode c_M_push 33 = .ok (.iload_n 3, 1) := by decide +kernel
theorem d_M_push_34 : decode c_M_push 34 = .ok (.iastore, 1) := by decide +kernel
theorem d_M_push_35 : decode c_M_push 35 = .ok (.aload_n 0, 1) := by decide +kernel
theorem d_M_push_36 : decode c_M_push 36 = .ok (.getfield 19, 3) := by decide +kernel
theorem d_M_push_39 : decode c_M_push 39 = .ok (.iload 6, 2) := by decide +kernel
theorem d_M_push_41 : decode c_M_push 41 = .ok (.iload 4, 2) := by decide +kernel
theorem d_M_push_43 : decode c_M_push 43 = .ok (.iastore, 1) := by decide +kernel
theorem d_M_push_44 : decode c_M_push 44 = .ok (.aload_n 0, 1) := by decide +kernel
theorem d_M_push_45 : decode c_M_push 45 = .ok (.getfield 22, 3) := by decide +kernel
theorem d_M_push_48 : decode c_M_push 48 = .ok (.iload 6, 2) := by decide +kernel
theorem d_M_push_50 : decode c_M_push 50 = .ok (.iload 5, 2) := by decide +kernel
theorem d_M_push_52 : decode c_M_push 52 = .ok (.iastore, 1) := by decide +kernel
theorem d_M_push_53 : decode c_M_push 53 = .ok (.aload_n 0, 1) := by decide +kernel
theorem d_M_push_54 : decode c_M_push 54 = .ok (.dup, 1) := by decide +kernel
theorem d_M_push_55 : decode c_M_push 55 = .ok (.getfield 112, 3) := by decide +kernel
theorem d_M_push_58 : decode c_M_push 58 = .ok (.iconst 1, 1) := by decide +kernel
theorem d_M_push_59 : decode c_M_push 59 = .ok (.iadd, 1) := by decide +kernel
theorem d_M_push_60 : decode c_M_push 60 = .ok (.putfield 112, 3) := by decide +kernel
theorem d_M_push_63 : decode c_M_push 63 = .ok (.aload_n 0, 1) := by decide +kernel
theorem d_M_push_64 : decode c_M_push 64 = .ok (.getfield 25, 3) := by decide +kernel
theorem d_M_push_67 : decode c_M_push 67 = .ok (.aload_n 0, 1) := by decide +kernel
theorem d_M_push_68 : decode c_M_push 68 = .ok (.getfield 112, 3) := by decide +kernel
theorem d_M_push_71 : decode c_M_push 71 = .ok (.iload 6, 2) := by decide +kernel
theorem d_M_push_73 : decode c_M_push 73 = .ok (.iconst 1, 1) := by decide +kernel
theorem d_M_push_74 : decode c_M_push 74 = .ok (.iadd, 1) := by decide +kernel
theorem d_M_push_75 : decode c_M_push 75 = .ok (.iastore, 1) := by decide +kernel
theorem d_M_push_76 : decode c_M_push 76 = .ok (.return_, 1) := by decide +kernel

set_option maxHeartbeats 4000000 in
set_option maxRecDepth 100000 in
/-- push(..) -/
theorem k_pushM (l : Launch) (D : va_G) (ca : Nat → ClassId) (am : Nat → Nat) (ar : Nat → Nat → Nat) (hI : mI am) (k b y d w : Nat) (ht : ar 0 0 < 6) (hat : ar 6 (ar 0 0) < 90) : Met l y_M_push (Cond.code y_M_push c_M_push 7 none :: zT) ({ frames := 1, cells := 0, slots := 0, locals := 40 }) (va_Pc [.ref (am 0), .int (nI k), .int (nI b), .int (nI y), .int (nI d), .int (nI w)] (mw D ca am ar)) (va_Qv (fun ar1 => ar1 = mpush ar k b y d w) (mw D ca am) (mA am)) 0 0 (mA am) := by
  refine Met.ofW (cc := c_M_push) (maxL := 7) (ret := none) (by decide) rfl ?_
  intro p e s m args below meth c s₁ B hml hv
  obtain ⟨rfl, hK, hP⟩ := hv
  have hx := B.exec
  have hb := B.bytes
  have hr := B.returns
  have hts0 := atoms_spec (ws := Cond.code y_M_push c_M_push 7 none :: zT) B.pre
  have hts := fun w h => hts0 w (List.mem_cons_of_mem _ h)
  have hown : s.vm.findClass R_M = some m.cls := findClass_of_methodNamed B.named
  have hlocks := B.notSynchronized
  have hD := mI_D hI
  have hS : va_S (mA am) s.heap s.heap [] := va_S.rf
  have hAA : ∀ q, mA am q → mA am q := fun _ h => h
  have hl := lv_entry ([.ref (am 0), .int (nI k), .int (nI b), .int (nI y), .int (nI d), .int (nI w)]) (n := 7) (Nat.le_of_ble_eq_true rfl)
  rw [lg_entry_eq]
  generalize (lg_sl ([.ref (am 0), .int (nI k), .int (nI b), .int (nI y), .int (nI d), .int (nI w)]) ++ List.replicate (7 - (lg_sl ([.ref (am 0), .int (nI k), .int (nI b), .int (nI y), .int (nI d), .int (nI w)])).length) Slot.unset).toArray = ls at hl ⊢
  have hl : lv_has ls 7 [(0, .ref (am 0)), (1, .int (nI k)), (2, .int (nI b)), (3, .int (nI y)), (4, .int (nI d)), (5, .int (nI w))] := hl
  skip
  refine lv_aload_n hx hb d_M_push_0 rfl (lv_at hl 0 rfl) ?_
  refine mm_get hx hb hts hown hK hP (index := 25) 5 (by decide) mf_M_25 (v := .ref (am 6)) rfl d_M_push_1 ?_
  refine lv_aload_n hx hb d_M_push_4 rfl (lv_at hl 0 rfl) ?_
  refine mm_get hx hb hts hown hK hP (index := 112) 27 (by decide) mf_M_112 (v := .int (nI (ar 0 0))) rfl d_M_push_5 ?_
  refine mm_ald hx hb hK hP 5 (by decide) rfl (ar 0 0) rfl (show ar 0 0 < 7 from by omega) (ar 6 (ar 0 0)) (rfl) d_M_push_8 ?_
  refine lv_istore (lv' := [(6, .int (nI (ar 6 (ar 0 0)))), (0, .ref (am 0)), (1, .int (nI k)), (2, .int (nI b)), (3, .int (nI y)), (4, .int (nI d)), (5, .int (nI w))]) hx hb d_M_push_9 hl (by decide) rfl (fun ls hl => ?_)
  refine lv_aload_n hx hb d_M_push_11 rfl (lv_at hl 1 rfl) ?_
  refine mm_get hx hb hts hown hK hP (index := 7) 0 (by decide) mf_M_7 (v := .ref (am 1)) rfl d_M_push_12 ?_
  refine lv_iload hx hb d_M_push_15 (lv_at hl 0 rfl) ?_
  refine lv_iload_n hx hb d_M_push_17 rfl (lv_at hl 2 rfl) ?_
  refine mm_ast hx hb hK hP hD hS 0 (by decide) rfl (ar 6 (ar 0 0)) rfl (show ar 6 (ar 0 0) < 90 from by omega) (k) (rfl) d_M_push_18 (fun H locs hP hS => ?_)
  refine lv_aload_n hx hb d_M_push_19 rfl (lv_at hl 1 rfl) ?_
  refine mm_get hx hb hts hown hK hP (index := 13) 1 (by decide) mf_M_13 (v := .ref (am 2)) rfl d_M_push_20 ?_
  refine lv_iload hx hb d_M_push_23 (lv_at hl 0 rfl) ?_
  refine lv_iload_n hx hb d_M_push_25 rfl (lv_at hl 3 rfl) ?_
  refine mm_ast hx hb hK hP hD hS 1 (by decide) rfl (ar 6 (ar 0 0)) rfl (show ar 6 (ar 0 0) < 90 from by omega) (b) (rfl) d_M_push_26 (fun H locs hP hS => ?_)
  refine lv_aload_n hx hb d_M_push_27 rfl (lv_at hl 1 rfl) ?_
  refine mm_get hx hb hts hown hK hP (index := 16) 2 (by decide) mf_M_16 (v := .ref (am 3)) rfl d_M_push_28 ?_
  refine lv_iload hx hb d_M_push_31 (lv_at hl 0 rfl) ?_
  refine lv_iload_n hx hb d_M_push_33 rfl (lv_at hl 4 rfl) ?_
  refine mm_ast hx hb hK hP hD hS 2 (by decide) rfl (ar 6 (ar 0 0)) rfl (show ar 6 (ar 0 0) < 90 from by omega) (y) (rfl) d_M_push_34 (fun H locs hP hS => ?_)
  refine lv_aload_n hx hb d_M_push_35 rfl (lv_at hl 1 rfl) ?_
  refine mm_get hx hb hts hown hK hP (index := 19) 3 (by decide) mf_M_19 (v := .ref (am 4)) rfl d_M_push_36 ?_
  refine lv_iload hx hb d_M_push_39 (lv_at hl 0 rfl) ?_
  refine lv_iload hx hb d_M_push_41 (lv_at hl 5 rfl) ?_
  refine mm_ast hx hb hK hP hD hS 3 (by decide) rfl (ar 6 (ar 0 0)) rfl (show ar 6 (ar 0 0) < 90 from by omega) (d) (rfl) d_M_push_43 (fun H locs hP hS => ?_)
  refine lv_aload_n hx hb d_M_push_44 rfl (lv_at hl 1 rfl) ?_
  refine mm_get hx hb hts hown hK hP (index := 22) 4 (by decide) mf_M_22 (v := .ref (am 5)) rfl d_M_push_45 ?_
  refine lv_iload hx hb d_M_push_48 (lv_at hl 0 rfl) ?_
  refine lv_iload hx hb d_M_push_50 (lv_at hl 6 rfl) ?_
  refine mm_ast hx hb hK hP hD hS 4 (by decide) rfl (ar 6 (ar 0 0)) rfl (show ar 6 (ar 0 0) < 90 from by omega) (w) (rfl) d_M_push_52 (fun H locs hP hS => ?_)
  refine lv_aload_n hx hb d_M_push_53 rfl (lv_at hl 1 rfl) ?_
  refine lv_dup hx hb d_M_push_54 rfl ?_
  refine mm_get hx hb hts hown hK hP (index := 112) 27 (by decide) mf_M_112 (v := .int (nI (ar 0 0))) rfl d_M_push_55 ?_
  refine lv_iconst (v := 1) hx hb d_M_push_58 rfl ?_
  refine lv_iadd hx hb d_M_push_59 ?_
  refine zz_as (y := nI ((ar 0 0) + 1)) (nI_add (ar 0 0) 1) ?_
  refine mm_put hx hb hts hown hK hP hD hS (index := 112) 0 (by decide) mf_M_112 ((ar 0 0) + 1) (rfl) rfl rfl d_M_push_60 (fun H locs hP hS => ?_)
  refine lv_aload_n hx hb d_M_push_63 rfl (lv_at hl 1 rfl) ?_
  refine mm_get hx hb hts hown hK hP (index := 25) 5 (by decide) mf_M_25 (v := .ref (am 6)) rfl d_M_push_64 ?_
  refine lv_aload_n hx hb d_M_push_67 rfl (lv_at hl 1 rfl) ?_
  refine mm_get hx hb hts hown hK hP (index := 112) 27 (by decide) mf_M_112 (v := .int (nI ((ar 0 0) + 1))) rfl d_M_push_68 ?_
  refine lv_iload hx hb d_M_push_71 (lv_at hl 0 rfl) ?_
  refine lv_iconst (v := 1) hx hb d_M_push_73 rfl ?_
  refine lv_iadd hx hb d_M_push_74 ?_
  refine zz_as (y := nI ((ar 6 (ar 0 0)) + 1)) (nI_add (ar 6 (ar 0 0)) 1) ?_
  refine mm_ast hx hb hK hP hD hS 5 (by decide) rfl ((ar 0 0) + 1) rfl (show (ar 0 0) + 1 < 7 from by omega) ((ar 6 (ar 0 0)) + 1) (rfl) d_M_push_75 (fun H locs hP hS => ?_)
  exact W.vret hx hb hr (fun t ht hW => ⟨⟨zs (zs (zs (zs (zs (zs (zs ar 1 (ar 6 (ar 0 0)) k) 2 (ar 6 (ar 0 0)) b) 3 (ar 6 (ar 0 0)) y) 4 (ar 6 (ar 0 0)) d) 5 (ar 6 (ar 0 0)) w) 0 0 ((ar 0 0) + 1)) 6 ((ar 0 0) + 1) ((ar 6 (ar 0 0)) + 1), rfl, rfl, va_K.moved hW.alike hK, by rw [ht]; exact hP⟩, hS.F ht⟩) hS.2.2 d_M_push_76

theorem d_M_leaf_0 : decode c_M_leaf 0 = .ok (.iload_n 1, 1) := by decide +kernel
theorem d_M_leaf_1 : decode c_M_leaf 1 = .ok (.invokestatic 115, 3) := by decide +kernel
theorem d_M_leaf_4 : decode c_M_leaf 4 = .ok (.ifCond .eq 19, 3) := by decide +kernel
theorem d_M_leaf_7 : decode c_M_leaf 7 = .ok (.iload_n 2, 1) := by decide +kernel
theorem d_M_leaf_8 : decode c_M_leaf 8 = .ok (.invokestatic 100, 3) := by decide +kernel
theorem d_M_leaf_11 : decode c_M_leaf 11 = .ok (.ifCond .eq 12, 3) := by decide +kernel
theorem d_M_leaf_14 : decode c_M_leaf 14 = .ok (.aload_n 0, 1) := by decide +kernel
theorem d_M_leaf_15 : decode c_M_leaf 15 = .ok (.getfield 112, 3) := by decide +kernel
theorem d_M_leaf_18 : decode c_M_leaf 18 = .ok (.bipush 6, 2) := by decide +kernel
theorem d_M_leaf_20 : decode c_M_leaf 20 = .ok (.if_icmp .ne 5, 3) := by decide +kernel
theorem d_M_leaf_23 : decode c_M_leaf 23 = .ok (.iconst 0, 1) := by decide +kernel
theorem d_M_leaf_24 : decode c_M_leaf 24 = .ok (.ireturn, 1) := by decide +kernel
theorem d_M_leaf_25 : decode c_M_leaf 25 = .ok (.aload_n 0, 1) := by decide +kernel
theorem d_M_leaf_26 : decode c_M_leaf 26 = .ok (.iconst 0, 1) := by decide +kernel
theorem d_M_leaf_27 : decode c_M_leaf 27 = .ok (.iload_n 1, 1) := by decide +kernel
theorem d_M_leaf_28 : decode c_M_leaf 28 = .ok (.iload_n 2, 1) := by decide +kernel
theorem d_M_leaf_29 : decode c_M_leaf 29 = .ok (.iconst 0, 1) := by decide +kernel
theorem d_M_leaf_30 : decode c_M_leaf 30 = .ok (.iconst 0, 1) := by decide +kernel
theorem d_M_leaf_31 : decode c_M_leaf 31 = .ok (.invokevirtual 118, 3) := by decide +kernel
theorem d_M_leaf_34 : decode c_M_leaf 34 = .ok (.iconst 1, 1) := by decide +kernel
theorem d_M_leaf_35 : decode c_M_leaf 35 = .ok (.ireturn, 1) := by decide +kernel

set_option maxHeartbeats 4000000 in
set_option maxRecDepth 100000 in
/-- k_leafM -/
theorem k_leafM (l : Launch) (D : va_G) (ca : Nat → ClassId) (am : Nat → Nat) (ar : Nat → Nat → Nat) (hI : mI am) (b y : Nat) (hb0 : b < 2 ^ 32) (hy0 : y < 2 ^ 32) (ht : ar 0 0 ≤ 6) (hat : ar 6 (ar 0 0) < 90) : Met l y_M_leaf (Cond.code y_M_leaf c_M_leaf 3 (some .boolean) :: zT) ({ frames := 5, cells := 0, slots := 0, locals := 200 }) (va_Pc [.ref (am 0), .int (nI b), .int (nI y)] (mw D ca am ar)) (va_Qi (fun r ar1 => r = zb (bs b && (el y && !decide (ar 0 0 = 6))) ∧ ar1 = if bs b && (el y && !decide (ar 0 0 = 6)) then mpush ar 0 b y 0 0 else ar) (mw D ca am) (mA am)) 0 0 (mA am) := by
  refine Met.ofW (cc := c_M_leaf) (maxL := 3) (ret := (some .boolean)) (by decide) rfl ?_
  intro p e s m args below meth c s₁ B hml hv
  obtain ⟨rfl, hK, hP⟩ := hv
  have hx := B.exec
  have hb := B.bytes
  have hr := B.returns
  have hts0 := atoms_spec (ws := Cond.code y_M_leaf c_M_leaf 3 (some .boolean) :: zT) B.pre
  have hts := fun w h => hts0 w (List.mem_cons_of_mem _ h)
  have hown : s.vm.findClass R_M = some m.cls := findClass_of_methodNamed B.named
  have hlocks := B.notSynchronized
  have hD := mI_D hI
  have hS : va_S (mA am) s.heap s.heap [] := va_S.rf
  have hAA : ∀ q, mA am q → mA am q := fun _ h => h
  have hl := lv_entry ([.ref (am 0), .int (nI b), .int (nI y)]) (n := 3) (Nat.le_of_ble_eq_true rfl)
  rw [lg_entry_eq]
  generalize (lg_sl ([.ref (am 0), .int (nI b), .int (nI y)]) ++ List.replicate (3 - (lg_sl ([.ref (am 0), .int (nI b), .int (nI y)])).length) Slot.unset).toArray = ls at hl ⊢
  have hl : lv_has ls 3 [(0, .ref (am 0)), (1, .int (nI b)), (2, .int (nI y))] := hl
  skip
  refine lv_iload_n hx hb d_M_leaf_0 rfl (lv_at hl 1 rfl) ?_
  refine zz_cS (index := 115) (n := 1) (As := [.int (nI b)]) (rest := []) ⟨hx, hb, hml, hown, hts⟩ (k_isBase l b hb0) mk_M_115 ms_M_isBase mi_M mc_M_isBase (by decide +kernel) ⟨rfl, rfl⟩ ⟨by decide, by decide⟩ preEq rfl hl.1 rfl (Nat.le_of_ble_eq_true rfl) d_M_leaf_1 ⟨Nat.zero_le _, Nat.zero_le _⟩ ?_
  refine lv_if_eq (tgt := 23) hx hb d_M_leaf_4 rfl (fun h4 => ?_) (fun h4 => ?_)
  · skip
    have hq : (bs b && (el y && !decide (ar 0 0 = 6))) = false := by simp [zb_eq h4]
    refine lv_iconst (v := 0) hx hb d_M_leaf_23 rfl ?_
    exact W.zret hx hb hr (rfl) (fun t ht hW => ⟨⟨_, ar, rfl, ⟨by rw [hq]; rfl, by rw [hq]; rfl⟩, va_K.moved hW.alike hK, by rw [ht]; exact hP⟩, hS.F ht⟩) hS.2.2 d_M_leaf_24
  · skip
    refine lv_iload_n hx hb d_M_leaf_7 rfl (lv_at hl 2 rfl) ?_
    refine zz_cS (index := 100) (n := 1) (As := [.int (nI y)]) (rest := []) ⟨hx, hb, hml, hown, hts⟩ (k_isElM l y hy0) mk_M_100 ms_M_isElement mi_M mc_M_isElement (by decide +kernel) ⟨rfl, rfl⟩ ⟨by decide, by decide⟩ preEq rfl hl.1 rfl (Nat.le_of_ble_eq_true rfl) d_M_leaf_8 ⟨Nat.zero_le _, Nat.zero_le _⟩ ?_
    refine lv_if_eq (tgt := 23) hx hb d_M_leaf_11 rfl (fun h11 => ?_) (fun h11 => ?_)
    · skip
      have hq : (bs b && (el y && !decide (ar 0 0 = 6))) = false := by simp [zb_eq h11]
      refine lv_iconst (v := 0) hx hb d_M_leaf_23 rfl ?_
      exact W.zret hx hb hr (rfl) (fun t ht hW => ⟨⟨_, ar, rfl, ⟨by rw [hq]; rfl, by rw [hq]; rfl⟩, va_K.moved hW.alike hK, by rw [ht]; exact hP⟩, hS.F ht⟩) hS.2.2 d_M_leaf_24
    · skip
      refine lv_aload_n hx hb d_M_leaf_14 rfl (lv_at hl 0 rfl) ?_
      refine mm_get hx hb hts hown hK hP (index := 112) 27 (by decide) mf_M_112 (v := .int (nI (ar 0 0))) rfl d_M_leaf_15 ?_
      refine lv_bipush (v := 6) hx hb d_M_leaf_18 rfl ?_
      refine lv_icmp_ne (tgt := 25) hx hb d_M_leaf_20 rfl (fun h20 => ?_) (fun h20 => ?_)
      · skip
        have ht6 : ¬ ar 0 0 = 6 := fun q => h20 (by rw [q]; rfl)
        have hq : (bs b && (el y && !decide (ar 0 0 = 6))) = true := by simp [ht6, zb_ne h4, zb_ne h11]
        refine lv_aload_n hx hb d_M_leaf_25 rfl (lv_at hl 0 rfl) ?_
        refine lv_iconst (v := 0) hx hb d_M_leaf_26 rfl ?_
        refine lv_iload_n hx hb d_M_leaf_27 rfl (lv_at hl 1 rfl) ?_
        refine lv_iload_n hx hb d_M_leaf_28 rfl (lv_at hl 2 rfl) ?_
        refine lv_iconst (v := 0) hx hb d_M_leaf_29 rfl ?_
        refine lv_iconst (v := 0) hx hb d_M_leaf_30 rfl ?_
        refine mm_cv (index := 118) (n := 5) (As := [.int 0, .int (nI b), .int (nI y), .int 0, .int 0]) (rest := []) ⟨hx, hb, hml, hown, hts⟩ (k_pushM l D ca am (ar) hI 0 b y 0 0 (by omega) hat) mk_M_118 mo_M_push me_M_M_push_M mi_M mc_M_push (by decide +kernel) ⟨rfl, rfl⟩ ⟨by decide, by decide⟩ hK hP hS hAA rfl hl.1 rfl (Nat.le_of_ble_eq_true rfl) d_M_leaf_31 ⟨Nat.zero_le _, Nat.zero_le _⟩ (fun ar1 H locs hpost hP hS => ?_)
        subst hpost
        refine lv_iconst (v := 1) hx hb d_M_leaf_34 rfl ?_
        exact W.zret hx hb hr (rfl) (fun t ht hW => ⟨⟨_, mpush ar 0 b y 0 0, rfl, ⟨by rw [hq]; rfl, by rw [hq]; rfl⟩, va_K.moved hW.alike hK, by rw [ht]; exact hP⟩, hS.F ht⟩) hS.2.2 d_M_leaf_35
      · skip
        have hq : (bs b && (el y && !decide (ar 0 0 = 6))) = false := by simp [(zn_inj (by omega) (by decide)).mp h20]
        refine lv_iconst (v := 0) hx hb d_M_leaf_23 rfl ?_
        exact W.zret hx hb hr (rfl) (fun t ht hW => ⟨⟨_, ar, rfl, ⟨by rw [hq]; rfl, by rw [hq]; rfl⟩, va_K.moved hW.alike hK, by rw [ht]; exact hP⟩, hS.F ht⟩) hS.2.2 d_M_leaf_24

theorem d_M_equal_0 : decode c_M_equal 0 = .ok (.iload_n 1, 1) := by decide +kernel
theorem d_M_equal_1 : decode c_M_equal 1 = .ok (.invokestatic 115, 3) := by decide +kernel
theorem d_M_equal_4 : decode c_M_equal 4 = .ok (.ifCond .eq 34, 3) := by decide +kernel
theorem d_M_equal_7 : decode c_M_equal 7 = .ok (.iload_n 2, 1) := by decide +kernel
theorem d_M_equal_8 : decode c_M_equal 8 = .ok (.invokestatic 100, 3) := by decide +kernel
theorem d_M_equal_11 : decode c_M_equal 11 = .ok (.ifCond .eq 27, 3) := by decide +kernel
theorem d_M_equal_14 : decode c_M_equal 14 = .ok (.iload_n 3, 1) := by decide +kernel
theorem d_M_equal_15 : decode c_M_equal 15 = .ok (.invokestatic 115, 3) := by decide +kernel
theorem d_M_equal_18 : decode c_M_equal 18 = .ok (.ifCond .eq 20, 3) := by decide +kernel
theorem d_M_equal_21 : decode c_M_equal 21 = .ok (.iload 4, 2) := by decide +kernel
theorem d_M_equal_23 : decode c_M_equal 23 = .ok (.invokestatic 100, 3) := by decide +kernel
theorem d_M_equal_26 : decode c_M_equal 26 = .ok (.ifCond .eq 12, 3) := by decide +kernel
theorem d_M_equal_29 : decode c_M_equal 29 = .ok (.aload_n 0, 1) := by decide +kernel
theorem d_M_equal_30 : decode c_M_equal 30 = .ok (.getfield 112, 3) := by decide +kernel
theorem d_M_equal_33 : decode c_M_equal 33 = .ok (.bipush 6, 2) := by decide +kernel
theorem d_M_equal_35 : decode c_M_equal 35 = .ok (.if_icmp .ne 5, 3) := by decide +kernel
theorem d_M_equal_38 : decode c_M_equal 38 = .ok (.iconst 0, 1) := by decide +kernel
theorem d_M_equal_39 : decode c_M_equal 39 = .ok (.ireturn, 1) := by decide +kernel
theorem d_M_equal_40 : decode c_M_equal 40 = .ok (.aload_n 0, 1) := by decide +kernel
theorem d_M_equal_41 : decode c_M_equal 41 = .ok (.iconst 0, 1) := by decide +kernel
theorem d_M_equal_42 : decode c_M_equal 42 = .ok (.iload_n 1, 1) := by decide +kernel
theorem d_M_equal_43 : decode c_M_equal 43 = .ok (.iload_n 2, 1) := by decide +kernel
theorem d_M_equal_44 : decode c_M_equal 44 = .ok (.iload_n 3, 1) := by decide +kernel
theorem d_M_equal_45 : decode c_M_equal 45 = .ok (.iload 4, 2) := by decide +kernel
theorem d_M_equal_47 : decode c_M_equal 47 = .ok (.invokevirtual 118, 3) := by decide +kernel
theorem d_M_equal_50 : decode c_M_equal 50 = .ok (.iconst 1, 1) := by decide +kernel
theorem d_M_equal_51 : decode c_M_equal 51 = .ok (.ireturn, 1) := by decide +kernel

set_option maxHeartbeats 4000000 in
set_option maxRecDepth 100000 in
/-- k_equalM -/
theorem k_equalM (l : Launch) (D : va_G) (ca : Nat → ClassId) (am : Nat → Nat) (ar : Nat → Nat → Nat) (hI : mI am) (b y d w : Nat) (hb0 : b < 2 ^ 32) (hy0 : y < 2 ^ 32) (hd0 : d < 2 ^ 32) (hw0 : w < 2 ^ 32) (ht : ar 0 0 ≤ 6) (hat : ar 6 (ar 0 0) < 90) : Met l y_M_equal (Cond.code y_M_equal c_M_equal 5 (some .boolean) :: zT) ({ frames := 5, cells := 0, slots := 0, locals := 200 }) (va_Pc [.ref (am 0), .int (nI b), .int (nI y), .int (nI d), .int (nI w)] (mw D ca am ar)) (va_Qi (fun r ar1 => r = zb (bs b && (el y && (bs d && (el w && !decide (ar 0 0 = 6))))) ∧ ar1 = if bs b && (el y && (bs d && (el w && !decide (ar 0 0 = 6)))) then mpush ar 0 b y d w else ar) (mw D ca am) (mA am)) 0 0 (mA am) := by
  refine Met.ofW (cc := c_M_equal) (maxL := 5) (ret := (some .boolean)) (by decide) rfl ?_
  intro p e s m args below meth c s₁ B hml hv
  obtain ⟨rfl, hK, hP⟩ := hv
  have hx := B.exec
  have hb := B.bytes
  have hr := B.returns
  have hts0 := atoms_spec (ws := Cond.code y_M_equal c_M_equal 5 (some .boolean) :: zT) B.pre
  have hts := fun w h => hts0 w (List.mem_cons_of_mem _ h)
  have hown : s.vm.findClass R_M = some m.cls := findClass_of_methodNamed B.named
  have hlocks := B.notSynchronized
  have hD := mI_D hI
  have hS : va_S (mA am) s.heap s.heap [] := va_S.rf
  have hAA : ∀ q, mA am q → mA am q := fun _ h => h
  have hl := lv_entry ([.ref (am 0), .int (nI b), .int (nI y), .int (nI d), .int (nI w)]) (n := 5) (Nat.le_of_ble_eq_true rfl)
  rw [lg_entry_eq]
  generalize (lg_sl ([.ref (am 0), .int (nI b), .int (nI y), .int (nI d), .int (nI w)]) ++ List.replicate (5 - (lg_sl ([.ref (am 0), .int (nI b), .int (nI y), .int (nI d), .int (nI w)])).length) Slot.unset).toArray = ls at hl ⊢
  have hl : lv_has ls 5 [(0, .ref (am 0)), (1, .int (nI b)), (2, .int (nI y)), (3, .int (nI d)), (4, .int (nI w))] := hl
  skip
  refine lv_iload_n hx hb d_M_equal_0 rfl (lv_at hl 1 rfl) ?_
  refine zz_cS (index := 115) (n := 1) (As := [.int (nI b)]) (rest := []) ⟨hx, hb, hml, hown, hts⟩ (k_isBase l b hb0) mk_M_115 ms_M_isBase mi_M mc_M_isBase (by decide +kernel) ⟨rfl, rfl⟩ ⟨by decide, by decide⟩ preEq rfl hl.1 rfl (Nat.le_of_ble_eq_true rfl) d_M_equal_1 ⟨Nat.zero_le _, Nat.zero_le _⟩ ?_
  refine lv_if_eq (tgt := 38) hx hb d_M_equal_4 rfl (fun h4 => ?_) (fun h4 => ?_)
  · skip
    have hq : (bs b && (el y && (bs d && (el w && !decide (ar 0 0 = 6))))) = false := by simp [zb_eq h4]
    refine lv_iconst (v := 0) hx hb d_M_equal_38 rfl ?_
    exact W.zret hx hb hr (rfl) (fun t ht hW => ⟨⟨_, ar, rfl, ⟨by rw [hq]; rfl, by rw [hq]; rfl⟩, va_K.moved hW.alike hK, by rw [ht]; exact hP⟩, hS.F ht⟩) hS.2.2 d_M_equal_39
  · skip
    refine lv_iload_n hx hb d_M_equal_7 rfl (lv_at hl 2 rfl) ?_
    refine zz_cS (index := 100) (n := 1) (As := [.int (nI y)]) (rest := []) ⟨hx, hb, hml, hown, hts⟩ (k_isElM l y hy0) mk_M_100 ms_M_isElement mi_M mc_M_isElement (by decide +kernel) ⟨rfl, rfl⟩ ⟨by decide, by decide⟩ preEq rfl hl.1 rfl (Nat.le_of_ble_eq_true rfl) d_M_equal_8 ⟨Nat.zero_le _, Nat.zero_le _⟩ ?_
    refine lv_if_eq (tgt := 38) hx hb d_M_equal_11 rfl (fun h11 => ?_) (fun h11 => ?_)
    · skip
      have hq : (bs b && (el y && (bs d && (el w && !decide (ar 0 0 = 6))))) = false := by simp [zb_eq h11]
      refine lv_iconst (v := 0) hx hb d_M_equal_38 rfl ?_
      exact W.zret hx hb hr (rfl) (fun t ht hW => ⟨⟨_, ar, rfl, ⟨by rw [hq]; rfl, by rw [hq]; rfl⟩, va_K.moved hW.alike hK, by rw [ht]; exact hP⟩, hS.F ht⟩) hS.2.2 d_M_equal_39
    · skip
      refine lv_iload_n hx hb d_M_equal_14 rfl (lv_at hl 3 rfl) ?_
      refine zz_cS (index := 115) (n := 1) (As := [.int (nI d)]) (rest := []) ⟨hx, hb, hml, hown, hts⟩ (k_isBase l d hd0) mk_M_115 ms_M_isBase mi_M mc_M_isBase (by decide +kernel) ⟨rfl, rfl⟩ ⟨by decide, by decide⟩ preEq rfl hl.1 rfl (Nat.le_of_ble_eq_true rfl) d_M_equal_15 ⟨Nat.zero_le _, Nat.zero_le _⟩ ?_
      refine lv_if_eq (tgt := 38) hx hb d_M_equal_18 rfl (fun h18 => ?_) (fun h18 => ?_)
      · skip
        have hq : (bs b && (el y && (bs d && (el w && !decide (ar 0 0 = 6))))) = false := by simp [zb_eq h18]
        refine lv_iconst (v := 0) hx hb d_M_equal_38 rfl ?_
        exact W.zret hx hb hr (rfl) (fun t ht hW => ⟨⟨_, ar, rfl, ⟨by rw [hq]; rfl, by rw [hq]; rfl⟩, va_K.moved hW.alike hK, by rw [ht]; exact hP⟩, hS.F ht⟩) hS.2.2 d_M_equal_39
      · skip
        refine lv_iload hx hb d_M_equal_21 (lv_at hl 4 rfl) ?_
        refine zz_cS (index := 100) (n := 1) (As := [.int (nI w)]) (rest := []) ⟨hx, hb, hml, hown, hts⟩ (k_isElM l w hw0) mk_M_100 ms_M_isElement mi_M mc_M_isElement (by decide +kernel) ⟨rfl, rfl⟩ ⟨by decide, by decide⟩ preEq rfl hl.1 rfl (Nat.le_of_ble_eq_true rfl) d_M_equal_23 ⟨Nat.zero_le _, Nat.zero_le _⟩ ?_
        refine lv_if_eq (tgt := 38) hx hb d_M_equal_26 rfl (fun h26 => ?_) (fun h26 => ?_)
        · skip
          have hq : (bs b && (el y && (bs d && (el w && !decide (ar 0 0 = 6))))) = false := by simp [zb_eq h26]
          refine lv_iconst (v := 0) hx hb d_M_equal_38 rfl ?_
          exact W.zret hx hb hr (rfl) (fun t ht hW => ⟨⟨_, ar, rfl, ⟨by rw [hq]; rfl, by rw [hq]; rfl⟩, va_K.moved hW.alike hK, by rw [ht]; exact hP⟩, hS.F ht⟩) hS.2.2 d_M_equal_39
        · skip
          refine lv_aload_n hx hb d_M_equal_29 rfl (lv_at hl 0 rfl) ?_
          refine mm_get hx hb hts hown hK hP (index := 112) 27 (by decide) mf_M_112 (v := .int (nI (ar 0 0))) rfl d_M_equal_30 ?_
          refine lv_bipush (v := 6) hx hb d_M_equal_33 rfl ?_
          refine lv_icmp_ne (tgt := 40) hx hb d_M_equal_35 rfl (fun h35 => ?_) (fun h35 => ?_)
          · skip
            have ht6 : ¬ ar 0 0 = 6 := fun q => h35 (by rw [q]; rfl)
            have hq : (bs b && (el y && (bs d && (el w && !decide (ar 0 0 = 6))))) = true := by simp [ht6, zb_ne h4, zb_ne h11, zb_ne h18, zb_ne h26]
            refine lv_aload_n hx hb d_M_equal_40 rfl (lv_at hl 0 rfl) ?_
            refine lv_iconst (v := 0) hx hb d_M_equal_41 rfl ?_
            refine lv_iload_n hx hb d_M_equal_42 rfl (lv_at hl 1 rfl) ?_
            refine lv_iload_n hx hb d_M_equal_43 rfl (lv_at hl 2 rfl) ?_
            refine lv_iload_n hx hb d_M_equal_44 rfl (lv_at hl 3 rfl) ?_
            refine lv_iload hx hb d_M_equal_45 (lv_at hl 4 rfl) ?_
            refine mm_cv (index := 118) (n := 5) (As := [.int 0, .int (nI b), .int (nI y), .int (nI d), .int (nI w)]) (rest := []) ⟨hx, hb, hml, hown, hts⟩ (k_pushM l D ca am (ar) hI 0 b y d w (by omega) hat) mk_M_118 mo_M_push me_M_M_push_M mi_M mc_M_push (by decide +kernel) ⟨rfl, rfl⟩ ⟨by decide, by decide⟩ hK hP hS hAA rfl hl.1 rfl (Nat.le_of_ble_eq_true rfl) d_M_equal_47 ⟨Nat.zero_le _, Nat.zero_le _⟩ (fun ar1 H locs hpost hP hS => ?_)
            subst hpost
            refine lv_iconst (v := 1) hx hb d_M_equal_50 rfl ?_
            exact W.zret hx hb hr (rfl) (fun t ht hW => ⟨⟨_, mpush ar 0 b y d w, rfl, ⟨by rw [hq]; rfl, by rw [hq]; rfl⟩, va_K.moved hW.alike hK, by rw [ht]; exact hP⟩, hS.F ht⟩) hS.2.2 d_M_equal_51
          · skip
            have hq : (bs b && (el y && (bs d && (el w && !decide (ar 0 0 = 6))))) = false := by simp [(zn_inj (by omega) (by decide)).mp h35]
            refine lv_iconst (v := 0) hx hb d_M_equal_38 rfl ?_
            exact W.zret hx hb hr (rfl) (fun t ht hW => ⟨⟨_, ar, rfl, ⟨by rw [hq]; rfl, by rw [hq]; rfl⟩, va_K.moved hW.alike hK, by rw [ht]; exact hP⟩, hS.F ht⟩) hS.2.2 d_M_equal_39

theorem d_M_discard_0 : decode c_M_discard 0 = .ok (.aload_n 0, 1) := by decide +kernel
theorem d_M_discard_1 : decode c_M_discard 1 = .ok (.getfield 112, 3) := by decide +kernel
theorem d_M_discard_4 : decode c_M_discard 4 = .ok (.ifCond .ne 5, 3) := by decide +kernel
theorem d_M_discard_7 : decode c_M_discard 7 = .ok (.iconst 0, 1) := by decide +kernel
theorem d_M_discard_8 : decode c_M_discard 8 = .ok (.ireturn, 1) := by decide +kernel
theorem d_M_discard_9 : decode c_M_discard 9 = .ok (.aload_n 0, 1) := by decide +kernel
theorem d_M_discard_10 : decode c_M_discard 10 = .ok (.dup, 1) := by decide +kernel
theorem d_M_discard_11 : decode c_M_discard 11 = .ok (.getfield 112, 3) := by decide +kernel
theorem d_M_discard_14 : decode c_M_discard 14 = .ok (.iconst 1, 1) := by decide +kernel
theorem d_M_discard_15 : decode c_M_discard 15 = .ok (.isub, 1) := by decide +kernel
theorem d_M_discard_16 : decode c_M_discard 16 = .ok (.putfield 112, 3) := by decide +kernel
theorem d_M_discard_19 : decode c_M_discard 19 = .ok (.iconst 1, 1) := by decide +kernel
theorem d_M_discard_20 : decode c_M_discard 20 = .ok (.ireturn, 1) := by decide +kernel

set_option maxHeartbeats 4000000 in
set_option maxRecDepth 100000 in
/-- discard() -/
theorem k_discardM (l : Launch) (D : va_G) (ca : Nat → ClassId) (am : Nat → Nat) (ar : Nat → Nat → Nat) (hI : mI am) (ht : ar 0 0 ≤ 6) : Met l y_M_discard (Cond.code y_M_discard c_M_discard 1 (some .boolean) :: zT) ({ frames := 1, cells := 0, slots := 0, locals := 40 }) (va_Pc [.ref (am 0)] (mw D ca am ar)) (va_Qi (fun r ar1 => r = zb (decide (0 < ar 0 0)) ∧ ar1 = if decide (0 < ar 0 0) then zs ar 0 0 (ar 0 0 - 1) else ar) (mw D ca am) (mA am)) 0 0 (mA am) := by
  refine Met.ofW (cc := c_M_discard) (maxL := 1) (ret := (some .boolean)) (by decide) rfl ?_
  intro p e s m args below meth c s₁ B hml hv
  obtain ⟨rfl, hK, hP⟩ := hv
  have hx := B.exec
  have hb := B.bytes
  have hr := B.returns
  have hts0 := atoms_spec (ws := Cond.code y_M_discard c_M_discard 1 (some .boolean) :: zT) B.pre
  have hts := fun w h => hts0 w (List.mem_cons_of_mem _ h)
  have hown : s.vm.findClass R_M = some m.cls := findClass_of_methodNamed B.named
  have hlocks := B.notSynchronized
  have hD := mI_D hI
  have hS : va_S (mA am) s.heap s.heap [] := va_S.rf
  have hAA : ∀ q, mA am q → mA am q := fun _ h => h
  have hl := lv_entry ([.ref (am 0)]) (n := 1) (Nat.le_of_ble_eq_true rfl)
  rw [lg_entry_eq]
  generalize (lg_sl ([.ref (am 0)]) ++ List.replicate (1 - (lg_sl ([.ref (am 0)])).length) Slot.unset).toArray = ls at hl ⊢
  have hl : lv_has ls 1 [(0, .ref (am 0))] := hl
  skip
  refine lv_aload_n hx hb d_M_discard_0 rfl (lv_at hl 0 rfl) ?_
  refine mm_get hx hb hts hown hK hP (index := 112) 27 (by decide) mf_M_112 (v := .int (nI (ar 0 0))) rfl d_M_discard_1 ?_
  refine lv_if_ne (tgt := 9) hx hb d_M_discard_4 rfl (fun h4 => ?_) (fun h4 => ?_)
  · skip
    have ht0 : ¬ ar 0 0 = 0 := fun q => h4 (by rw [q]; rfl)
    have hq : (decide (0 < ar 0 0)) = true := decide_eq_true (by omega)
    refine lv_aload_n hx hb d_M_discard_9 rfl (lv_at hl 0 rfl) ?_
    refine lv_dup hx hb d_M_discard_10 rfl ?_
    refine mm_get hx hb hts hown hK hP (index := 112) 27 (by decide) mf_M_112 (v := .int (nI (ar 0 0))) rfl d_M_discard_11 ?_
    refine lv_iconst (v := 1) hx hb d_M_discard_14 rfl ?_
    refine lv_isub hx hb d_M_discard_15 ?_
    refine zz_as (y := nI ((ar 0 0) - 1)) (pk_sub (a := ar 0 0) (b := 1) (by omega)) ?_
    refine mm_put hx hb hts hown hK hP hD hS (index := 112) 0 (by decide) mf_M_112 ((ar 0 0) - 1) (rfl) rfl rfl d_M_discard_16 (fun H locs hP hS => ?_)
    refine lv_iconst (v := 1) hx hb d_M_discard_19 rfl ?_
    exact W.zret hx hb hr (rfl) (fun t ht hW => ⟨⟨_, zs ar 0 0 ((ar 0 0) - 1), rfl, ⟨by rw [hq]; rfl, by rw [hq]; rfl⟩, va_K.moved hW.alike hK, by rw [ht]; exact hP⟩, hS.F ht⟩) hS.2.2 d_M_discard_20
  · skip
    have ht0 : ar 0 0 = 0 := (zn_inj (by omega) (by decide)).mp h4
    have hq : (decide (0 < ar 0 0)) = false := decide_eq_false (by omega)
    refine lv_iconst (v := 0) hx hb d_M_discard_7 rfl ?_
    exact W.zret hx hb hr (rfl) (fun t ht hW => ⟨⟨_, ar, rfl, ⟨by rw [hq]; rfl, by rw [hq]; rfl⟩, va_K.moved hW.alike hK, by rw [ht]; exact hP⟩, hS.F ht⟩) hS.2.2 d_M_discard_8

theorem d_M_isLeaf_0 : decode c_M_isLeaf 0 = .ok (.iload_n 1, 1) := by decide +kernel
theorem d_M_isLeaf_1 : decode c_M_isLeaf 1 = .ok (.ifCond .lt 15, 3) := by decide +kernel
theorem d_M_isLeaf_4 : decode c_M_isLeaf 4 = .ok (.iload_n 1, 1) := by decide +kernel
theorem d_M_isLeaf_5 : decode c_M_isLeaf 5 = .ok (.aload_n 0, 1) := by decide +kernel
theorem d_M_isLeaf_6 : decode c_M_isLeaf 6 = .ok (.getfield 125, 3) := by decide +kernel
theorem d_M_isLeaf_9 : decode c_M_isLeaf 9 = .ok (.if_icmp .ge 7, 3) := by decide +kernel
theorem d_M_isLeaf_12 : decode c_M_isLeaf 12 = .ok (.iconst 1, 1) := by decide +kernel
theorem d_M_isLeaf_13 : decode c_M_isLeaf 13 = .ok (.goto 4, 3) := by decide +kernel
theorem d_M_isLeaf_16 : decode c_M_isLeaf 16 = .ok (.iconst 0, 1) := by decide +kernel
theorem d_M_isLeaf_17 : decode c_M_isLeaf 17 = .ok (.ireturn, 1) := by decide +kernel

set_option maxHeartbeats 4000000 in
set_option maxRecDepth 100000 in
/-- isLeaf(n) -/
theorem k_isLeafM (l : Launch) (D : va_G) (ca : Nat → ClassId) (am : Nat → Nat) (ar : Nat → Nat → Nat) (n : Nat) (hn : n < 2 ^ 32) (hl2 : ar 0 2 ≤ 8) : Met l y_M_isLeaf (Cond.code y_M_isLeaf c_M_isLeaf 2 (some .boolean) :: zT) ({ frames := 1, cells := 0, slots := 0, locals := 40 }) (va_Pc [.ref (am 0), .int (nI n)] (mw D ca am ar)) (QcRead (zb (decide (n < ar 0 2)))) 0 0 (fun _ => False) := by
  refine Met.ofW (cc := c_M_isLeaf) (maxL := 2) (ret := (some .boolean)) (by decide) rfl ?_
  intro p e s m args below meth c s₁ B hml hv
  obtain ⟨rfl, hK, hP⟩ := hv
  have hx := B.exec
  have hb := B.bytes
  have hr := B.returns
  have hts0 := atoms_spec (ws := Cond.code y_M_isLeaf c_M_isLeaf 2 (some .boolean) :: zT) B.pre
  have hts := fun w h => hts0 w (List.mem_cons_of_mem _ h)
  have hown : s.vm.findClass R_M = some m.cls := findClass_of_methodNamed B.named
  have hlocks := B.notSynchronized
  have hl := lv_entry ([.ref (am 0), .int (nI n)]) (n := 2) (Nat.le_of_ble_eq_true rfl)
  rw [lg_entry_eq]
  generalize (lg_sl ([.ref (am 0), .int (nI n)]) ++ List.replicate (2 - (lg_sl ([.ref (am 0), .int (nI n)])).length) Slot.unset).toArray = ls at hl ⊢
  have hl : lv_has ls 2 [(0, .ref (am 0)), (1, .int (nI n))] := hl
  refine lv_iload_n hx hb d_M_isLeaf_0 rfl (lv_at hl 1 rfl) ?_
  refine lv_if_lt (tgt := 16) hx hb d_M_isLeaf_1 rfl (fun h1 => ?_) (fun h1 => ?_)
  · skip
    have hq : (decide (n < ar 0 2)) = false := decide_eq_false (by have := (zn_lt0 hn).mp h1; omega)
    refine lv_iconst (v := 0) hx hb d_M_isLeaf_16 rfl ?_
    refine zz_as (y := zb (decide (n < ar 0 2))) (by rw [hq]; rfl) ?_
    exact W.zret hx hb hr (zb_nar _) (fun t ht hW => ⟨rfl, ht⟩) (fun q h => absurd h List.not_mem_nil) d_M_isLeaf_17
  · skip
    refine lv_iload_n hx hb d_M_isLeaf_4 rfl (lv_at hl 1 rfl) ?_
    refine lv_aload_n hx hb d_M_isLeaf_5 rfl (lv_at hl 0 rfl) ?_
    refine mm_get hx hb hts hown hK hP (index := 125) 29 (by decide) mf_M_125 (v := .int (nI (ar 0 2))) rfl d_M_isLeaf_6 ?_
    refine lv_icmp_ge (tgt := 16) hx hb d_M_isLeaf_9 rfl (fun h9 => ?_) (fun h9 => ?_)
    · skip
      have hq : (decide (n < ar 0 2)) = false := decide_eq_false (by have := (zn_le (b := ar 0 2) hn (by omega)).mp h9; omega)
      refine lv_iconst (v := 0) hx hb d_M_isLeaf_16 rfl ?_
      refine zz_as (y := zb (decide (n < ar 0 2))) (by rw [hq]; rfl) ?_
      exact W.zret hx hb hr (zb_nar _) (fun t ht hW => ⟨rfl, ht⟩) (fun q h => absurd h List.not_mem_nil) d_M_isLeaf_17
    · skip
      have hq : (decide (n < ar 0 2)) = true := decide_eq_true (by have a := mt (zn_lt0 hn).mpr h1; have b := mt (zn_le (b := ar 0 2) hn (by omega)).mpr h9; omega)
      refine lv_iconst (v := 1) hx hb d_M_isLeaf_12 rfl ?_
      refine lv_goto (tgt := 17) hx hb d_M_isLeaf_13 rfl ?_
      refine zz_as (y := zb (decide (n < ar 0 2))) (by rw [hq]; rfl) ?_
      exact W.zret hx hb hr (zb_nar _) (fun t ht hW => ⟨rfl, ht⟩) (fun q h => absurd h List.not_mem_nil) d_M_isLeaf_17

theorem d_M_isPair_0 : decode c_M_isPair 0 = .ok (.aload_n 0, 1) := by decide +kernel
theorem d_M_isPair_1 : decode c_M_isPair 1 = .ok (.iload_n 1, 1) := by decide +kernel
theorem d_M_isPair_2 : decode c_M_isPair 2 = .ok (.invokevirtual 135, 3) := by decide +kernel
theorem d_M_isPair_5 : decode c_M_isPair 5 = .ok (.ifCond .eq 20, 3) := by decide +kernel
theorem d_M_isPair_8 : decode c_M_isPair 8 = .ok (.aload_n 0, 1) := by decide +kernel
theorem d_M_isPair_9 : decode c_M_isPair 9 = .ok (.getfield 40, 3) := by decide +kernel
theorem d_M_isPair_12 : decode c_M_isPair 12 = .ok (.iconst 2, 1) := by decide +kernel
theorem d_M_isPair_13 : decode c_M_isPair 13 = .ok (.iload_n 1, 1) := by decide +kernel
theorem d_M_isPair_14 : decode c_M_isPair 14 = .ok (.imul, 1) := by decide +kernel
theorem d_M_isPair_15 : decode c_M_isPair 15 = .ok (.iload_n 2, 1) := by decide +kernel
theorem d_M_isPair_16 : decode c_M_isPair 16 = .ok (.iadd, 1) := by decide +kernel
theorem d_M_isPair_17 : decode c_M_isPair 17 = .ok (.iaload, 1) := by decide +kernel
theorem d_M_isPair_18 : decode c_M_isPair 18 = .ok (.ifCond .le 7, 3) := by decide +kernel
theorem d_M_isPair_21 : decode c_M_isPair 21 = .ok (.iconst 1, 1) := by decide +kernel
theorem d_M_isPair_22 : decode c_M_isPair 22 = .ok (.goto 4, 3) := by decide +kernel
theorem d_M_isPair_25 : decode c_M_isPair 25 = .ok (.iconst 0, 1) := by decide +kernel
theorem d_M_isPair_26 : decode c_M_isPair 26 = .ok (.ireturn, 1) := by decide +kernel

set_option maxHeartbeats 4000000 in
set_option maxRecDepth 100000 in
/-- isPair(n, q) -/
theorem k_isPairM (l : Launch) (D : va_G) (ca : Nat → ClassId) (am : Nat → Nat) (ar : Nat → Nat → Nat) (n q : Nat) (hn : n < 2 ^ 32) (hq2 : q < 2) (hl2 : ar 0 2 ≤ 8) (hbs : ∀ i, i < 16 → ar 11 i < 10007) : Met l y_M_isPair (Cond.code y_M_isPair c_M_isPair 3 (some .boolean) :: zT) ({ frames := 2, cells := 0, slots := 0, locals := 80 }) (va_Pc [.ref (am 0), .int (nI n), .int (nI q)] (mw D ca am ar)) (QcRead (zb (pairB ar n q))) 0 0 (fun _ => False) := by
  refine Met.ofW (cc := c_M_isPair) (maxL := 3) (ret := (some .boolean)) (by decide) rfl ?_
  intro p e s m args below meth c s₁ B hml hv
  obtain ⟨rfl, hK, hP⟩ := hv
  have hx := B.exec
  have hb := B.bytes
  have hr := B.returns
  have hts0 := atoms_spec (ws := Cond.code y_M_isPair c_M_isPair 3 (some .boolean) :: zT) B.pre
  have hts := fun w h => hts0 w (List.mem_cons_of_mem _ h)
  have hown : s.vm.findClass R_M = some m.cls := findClass_of_methodNamed B.named
  have hlocks := B.notSynchronized
  have hl := lv_entry ([.ref (am 0), .int (nI n), .int (nI q)]) (n := 3) (Nat.le_of_ble_eq_true rfl)
  rw [lg_entry_eq]
  generalize (lg_sl ([.ref (am 0), .int (nI n), .int (nI q)]) ++ List.replicate (3 - (lg_sl ([.ref (am 0), .int (nI n), .int (nI q)])).length) Slot.unset).toArray = ls at hl ⊢
  have hl : lv_has ls 3 [(0, .ref (am 0)), (1, .int (nI n)), (2, .int (nI q))] := hl
  refine lv_aload_n hx hb d_M_isPair_0 rfl (lv_at hl 0 rfl) ?_
  refine lv_iload_n hx hb d_M_isPair_1 rfl (lv_at hl 1 rfl) ?_
  refine zz_cV (index := 135) (n := 1) (As := [.int (nI n)]) (rest := []) ⟨hx, hb, hml, hown, hts⟩ (k_isLeafM l D ca am (ar) n hn hl2) mk_M_135 mo_M_isLeaf me_M_M_isLeaf_M mi_M mc_M_isLeaf (by decide +kernel) ⟨rfl, rfl⟩ ⟨by decide, by decide⟩ (mm_pre hK hP) rfl hl.1 rfl (Nat.le_of_ble_eq_true rfl) d_M_isPair_2 ⟨Nat.zero_le _, Nat.zero_le _⟩ ?_
  refine lv_if_eq (tgt := 25) hx hb d_M_isPair_5 rfl (fun h5 => ?_) (fun h5 => ?_)
  · skip
    have hq : pairB ar n q = false := by unfold pairB; rw [zb_eq h5, Bool.false_and]
    refine lv_iconst (v := 0) hx hb d_M_isPair_25 rfl ?_
    refine zz_as (y := zb (pairB ar n q)) (by rw [hq]; rfl) ?_
    exact W.zret hx hb hr (zb_nar _) (fun t ht hW => ⟨rfl, ht⟩) (fun q h => absurd h List.not_mem_nil) d_M_isPair_26
  · skip
    have hn2 : n < ar 0 2 := of_decide_eq_true (zb_ne h5)
    have hv := hbs (2 * n + q) (by omega)
    refine lv_aload_n hx hb d_M_isPair_8 rfl (lv_at hl 0 rfl) ?_
    refine mm_get hx hb hts hown hK hP (index := 40) 10 (by decide) mf_M_40 (v := .ref (am 11)) rfl d_M_isPair_9 ?_
    refine lv_iconst (v := 2) hx hb d_M_isPair_12 rfl ?_
    refine lv_iload_n hx hb d_M_isPair_13 rfl (lv_at hl 1 rfl) ?_
    refine lv_imul hx hb d_M_isPair_14 ?_
    refine zz_as (y := nI (2 * n)) (pk_mul 2 n) ?_
    refine lv_iload_n hx hb d_M_isPair_15 rfl (lv_at hl 2 rfl) ?_
    refine lv_iadd hx hb d_M_isPair_16 ?_
    refine zz_as (y := nI ((2 * n) + q)) (nI_add (2 * n) q) ?_
    refine mm_ald hx hb hK hP 10 (by decide) rfl ((2 * n) + q) rfl (show (2 * n) + q < 16 from by omega) (ar 11 ((2 * n) + q)) (rfl) d_M_isPair_17 ?_
    refine lv_if_le (tgt := 25) hx hb d_M_isPair_18 rfl (fun h18 => ?_) (fun h18 => ?_)
    · skip
      have hq : pairB ar n q = false := by
        unfold pairB
        rw [decide_eq_false (show ¬ 0 < ar 11 (2 * n + q) from fun z => nI_nle z (by omega) h18), Bool.and_false]
      refine lv_iconst (v := 0) hx hb d_M_isPair_25 rfl ?_
      refine zz_as (y := zb (pairB ar n q)) (by rw [hq]; rfl) ?_
      exact W.zret hx hb hr (zb_nar _) (fun t ht hW => ⟨rfl, ht⟩) (fun q h => absurd h List.not_mem_nil) d_M_isPair_26
    · skip
      have hq : pairB ar n q = true := by
        unfold pairB
        have z : ¬ ar 11 (2 * n + q) = 0 := fun z => h18 (by rw [z]; decide)
        rw [decide_eq_true hn2, decide_eq_true (show 0 < ar 11 (2 * n + q) by omega)]; rfl
      refine lv_iconst (v := 1) hx hb d_M_isPair_21 rfl ?_
      refine lv_goto (tgt := 26) hx hb d_M_isPair_22 rfl ?_
      refine zz_as (y := zb (pairB ar n q)) (by rw [hq]; rfl) ?_
      exact W.zret hx hb hr (zb_nar _) (fun t ht hW => ⟨rfl, ht⟩) (fun q h => absurd h List.not_mem_nil) d_M_isPair_26
end
section
/-! the model's tell, witness, part, change, later, respondLeaf -/
theorem zn_gt {a b : Nat} (ha : a < 2 ^ 32) (hb : b < 2 ^ 31) : nI b < nI a ↔ (b < a ∧ a < 2 ^ 31) := by
  rw [Int32.lt_iff_toInt_lt, zn_toInt ha, zn_toInt (by omega)]
  split <;> (try split) <;> omega
def pv (ar : Nat → Nat → Nat) (n w : Nat) : Nat := if w < 2 then ar 14 (2 * n + w) else if w = 2 then ar 15 n else ar 16 n
def chg (ar : Nat → Nat → Nat) (n w v : Nat) : Nat → Nat → Nat := if w < 2 then zs ar 14 (2 * n + w) v else if w = 2 then zs ar 15 n v else zs ar 16 n v
def chgB (ar : Nat → Nat → Nat) (n w v : Nat) : Bool := partB ar n w && decide (v < if w < 2 then 10007 else 5003)
def lat (ar : Nat → Nat → Nat) (k b c : Nat) : Nat → Nat → Nat := zs (zs (zs (zs ar 23 (ar 0 6) k) 25 k b) 24 k c) 0 6 (ar 0 6 + 1)
def rspL (ar : Nat → Nat → Nat) (n c : Nat) : Nat → Nat → Nat := zs (zs ar 15 n c) 16 n ((ar 20 n + c * ar 13 n % 5003) % 5003)
theorem pairB_f {ar : Nat → Nat → Nat} {n p : Nat} (h : n < ar 0 2) (q : pairB ar n p = false) : ¬ 0 < ar 11 (2 * n + p) := by
  unfold pairB at q
  rw [decide_eq_true h, Bool.true_and] at q
  exact of_decide_eq_false q
theorem pairB_t {ar : Nat → Nat → Nat} {n p : Nat} (q : pairB ar n p = true) : n < ar 0 2 ∧ 0 < ar 11 (2 * n + p) := by
  unfold pairB at q
  simp only [Bool.and_eq_true, decide_eq_true_eq] at q
  exact q
theorem partB_t {ar : Nat → Nat → Nat} {n w : Nat} (q : partB ar n w = true) : n < ar 0 2 ∧ w < 4 := by
  unfold partB at q
  simp only [Bool.and_eq_true, decide_eq_true_eq] at q
  exact ⟨q.1, q.2.1⟩

theorem d_M_tell_0 : decode c_M_tell 0 = .ok (.aload_n 0, 1) := by decide +kernel
theorem d_M_tell_1 : decode c_M_tell 1 = .ok (.iload_n 1, 1) := by decide +kernel
theorem d_M_tell_2 : decode c_M_tell 2 = .ok (.invokevirtual 135, 3) := by decide +kernel
theorem d_M_tell_5 : decode c_M_tell 5 = .ok (.ifCond .eq 33, 3) := by decide +kernel
theorem d_M_tell_8 : decode c_M_tell 8 = .ok (.iload_n 2, 1) := by decide +kernel
theorem d_M_tell_9 : decode c_M_tell 9 = .ok (.invokestatic 109, 3) := by decide +kernel
theorem d_M_tell_12 : decode c_M_tell 12 = .ok (.ifCond .eq 26, 3) := by decide +kernel
theorem d_M_tell_15 : decode c_M_tell 15 = .ok (.aload_n 0, 1) := by decide +kernel
theorem d_M_tell_16 : decode c_M_tell 16 = .ok (.getfield 40, 3) := by decide +kernel
theorem d_M_tell_19 : decode c_M_tell 19 = .ok (.iconst 2, 1) := by decide +kernel
theorem d_M_tell_20 : decode c_M_tell 20 = .ok (.iload_n 1, 1) := by decide +kernel
theorem d_M_tell_21 : decode c_M_tell 21 = .ok (.imul, 1) := by decide +kernel
theorem d_M_tell_22 : decode c_M_tell 22 = .ok (.iaload, 1) := by decide +kernel
theorem d_M_tell_23 : decode c_M_tell 23 = .ok (.iload_n 2, 1) := by decide +kernel
theorem d_M_tell_24 : decode c_M_tell 24 = .ok (.invokestatic 96, 3) := by decide +kernel
theorem d_M_tell_27 : decode c_M_tell 27 = .ok (.aload_n 0, 1) := by decide +kernel
theorem d_M_tell_28 : decode c_M_tell 28 = .ok (.getfield 43, 3) := by decide +kernel
theorem d_M_tell_31 : decode c_M_tell 31 = .ok (.iconst 2, 1) := by decide +kernel
theorem d_M_tell_32 : decode c_M_tell 32 = .ok (.iload_n 1, 1) := by decide +kernel
theorem d_M_tell_33 : decode c_M_tell 33 = .ok (.imul, 1) := by decide +kernel
theorem d_M_tell_34 : decode c_M_tell 34 = .ok (.iaload, 1) := by decide +kernel
theorem d_M_tell_35 : decode c_M_tell 35 = .ok (.if_icmp .eq 5, 3) := by decide +kernel
theorem d_M_tell_38 : decode c_M_tell 38 = .ok (.iconst 0, 1) := by decide +kernel
theorem d_M_tell_39 : decode c_M_tell 39 = .ok (.ireturn, 1) := by decide +kernel
theorem d_M_tell_40 : decode c_M_tell 40 = .ok (.aload_n 0, 1) := by decide +kernel
theorem d_M_tell_41 : decode c_M_tell 41 = .ok (.iload_n 1, 1) := by decide +kernel
theorem d_M_tell_42 : decode c_M_tell 42 = .ok (.iconst 1, 1) := by decide +kernel
theorem d_M_tell_43 : decode c_M_tell 43 = .ok (.invokevirtual 138, 3) := by decide +kernel
theorem d_M_tell_46 : decode c_M_tell 46 = .ok (.ifCond .eq 32, 3) := by decide +kernel
theorem d_M_tell_49 : decode c_M_tell 49 = .ok (.aload_n 0, 1) := by decide +kernel
theorem d_M_tell_50 : decode c_M_tell 50 = .ok (.getfield 40, 3) := by decide +kernel
theorem d_M_tell_53 : decode c_M_tell 53 = .ok (.iconst 2, 1) := by decide +kernel
theorem d_M_tell_54 : decode c_M_tell 54 = .ok (.iload_n 1, 1) := by decide +kernel
theorem d_M_tell_55 : decode c_M_tell 55 = .ok (.imul, 1) := by decide +kernel
theorem d_M_tell_56 : decode c_M_tell 56 = .ok (.iconst 1, 1) := by decide +kernel
theorem d_M_tell_57 : decode c_M_tell 57 = .ok (.iadd, 1) := by decide +kernel
theorem d_M_tell_58 : decode c_M_tell 58 = .ok (.iaload, 1) := by decide +kernel
theorem d_M_tell_59 : decode c_M_tell 59 = .ok (.iload_n 2, 1) := by decide +kernel
theorem d_M_tell_60 : decode c_M_tell 60 = .ok (.invokestatic 96, 3) := by decide +kernel
theorem d_M_tell_63 : decode c_M_tell 63 = .ok (.aload_n 0, 1) := by decide +kernel
theorem d_M_tell_64 : decode c_M_tell 64 = .ok (.getfield 43, 3) := by decide +kernel
theorem d_M_tell_67 : decode c_M_tell 67 = .ok (.iconst 2, 1) := by decide +kernel
theorem d_M_tell_68 : decode c_M_tell 68 = .ok (.iload_n 1, 1) := by decide +kernel
theorem d_M_tell_69 : decode c_M_tell 69 = .ok (.imul, 1) := by decide +kernel
theorem d_M_tell_70 : decode c_M_tell 70 = .ok (.iconst 1, 1) := by decide +kernel
theorem d_M_tell_71 : decode c_M_tell 71 = .ok (.iadd, 1) := by decide +kernel
theorem d_M_tell_72 : decode c_M_tell 72 = .ok (.iaload, 1) := by decide +kernel
theorem d_M_tell_73 : decode c_M_tell 73 = .ok (.if_icmp .eq 5, 3) := by decide +kernel
theorem d_M_tell_76 : decode c_M_tell 76 = .ok (.iconst 0, 1) := by decide +kernel
theorem d_M_tell_77 : decode c_M_tell 77 = .ok (.ireturn, 1) := by decide +kernel
theorem d_M_tell_78 : decode c_M_tell 78 = .ok (.aload_n 0, 1) := by decide +kernel
theorem d_M_tell_79 : decode c_M_tell 79 = .ok (.getfield 46, 3) := by decide +kernel
theorem d_M_tell_82 : decode c_M_tell 82 = .ok (.iload_n 1, 1) := by decide +kernel
theorem d_M_tell_83 : decode c_M_tell 83 = .ok (.iload_n 2, 1) := by decide +kernel
theorem d_M_tell_84 : decode c_M_tell 84 = .ok (.iastore, 1) := by decide +kernel
theorem d_M_tell_85 : decode c_M_tell 85 = .ok (.iconst 1, 1) := by decide +kernel
theorem d_M_tell_86 : decode c_M_tell 86 = .ok (.ireturn, 1) := by decide +kernel

set_option maxHeartbeats 4000000 in
set_option maxRecDepth 100000 in
/-- tell(n, x) -/
theorem k_tellM (l : Launch) (D : va_G) (ca : Nat → ClassId) (am : Nat → Nat) (ar : Nat → Nat → Nat) (hI : mI am) (n x : Nat) (hn : n < 2 ^ 32) (hx1 : x < 2 ^ 32) (hl2 : ar 0 2 ≤ 8) (hbs : ∀ i, i < 16 → ar 11 i < 10007) (his : ∀ i, i < 16 → ar 12 i < 10007) : Met l y_M_tell (Cond.code y_M_tell c_M_tell 3 (some .boolean) :: zT) ({ frames := 3, cells := 0, slots := 0, locals := 120 }) (va_Pc [.ref (am 0), .int (nI n), .int (nI x)] (mw D ca am ar)) (va_Qi (fun r ar1 => r = zb (tellB ar n x) ∧ ar1 = if tellB ar n x then zs ar 13 n x else ar) (mw D ca am) (mA am)) 0 0 (mA am) := by
  refine Met.ofW (cc := c_M_tell) (maxL := 3) (ret := (some .boolean)) (by decide) rfl ?_
  intro p e s m args below meth c s₁ B hml hv
  obtain ⟨rfl, hK, hP⟩ := hv
  have hx := B.exec
  have hb := B.bytes
  have hr := B.returns
  have hts0 := atoms_spec (ws := Cond.code y_M_tell c_M_tell 3 (some .boolean) :: zT) B.pre
  have hts := fun w h => hts0 w (List.mem_cons_of_mem _ h)
  have hown : s.vm.findClass R_M = some m.cls := findClass_of_methodNamed B.named
  have hlocks := B.notSynchronized
  have hD := mI_D hI
  have hS : va_S (mA am) s.heap s.heap [] := va_S.rf
  have hAA : ∀ q, mA am q → mA am q := fun _ h => h
  have hl := lv_entry ([.ref (am 0), .int (nI n), .int (nI x)]) (n := 3) (Nat.le_of_ble_eq_true rfl)
  rw [lg_entry_eq]
  generalize (lg_sl ([.ref (am 0), .int (nI n), .int (nI x)]) ++ List.replicate (3 - (lg_sl ([.ref (am 0), .int (nI n), .int (nI x)])).length) Slot.unset).toArray = ls at hl ⊢
  have hl : lv_has ls 3 [(0, .ref (am 0)), (1, .int (nI n)), (2, .int (nI x))] := hl
  skip
  refine lv_aload_n hx hb d_M_tell_0 rfl (lv_at hl 0 rfl) ?_
  refine lv_iload_n hx hb d_M_tell_1 rfl (lv_at hl 1 rfl) ?_
  refine zz_cV (index := 135) (n := 1) (As := [.int (nI n)]) (rest := []) ⟨hx, hb, hml, hown, hts⟩ (k_isLeafM l D ca am (ar) n hn hl2) mk_M_135 mo_M_isLeaf me_M_M_isLeaf_M mi_M mc_M_isLeaf (by decide +kernel) ⟨rfl, rfl⟩ ⟨by decide, by decide⟩ (mm_pre hK hP) rfl hl.1 rfl (Nat.le_of_ble_eq_true rfl) d_M_tell_2 ⟨Nat.zero_le _, Nat.zero_le _⟩ ?_
  refine lv_if_eq (tgt := 38) hx hb d_M_tell_5 rfl (fun h5 => ?_) (fun h5 => ?_)
  · skip
    have hq : tellB ar n x = false := by unfold tellB; rw [zb_eq h5, Bool.false_and]
    refine lv_iconst (v := 0) hx hb d_M_tell_38 rfl ?_
    exact W.zret hx hb hr (rfl) (fun t ht hW => ⟨⟨_, ar, rfl, ⟨by rw [hq]; rfl, by rw [hq]; rfl⟩, va_K.moved hW.alike hK, by rw [ht]; exact hP⟩, hS.F ht⟩) hS.2.2 d_M_tell_39
  · skip
    have hA : n < ar 0 2 := of_decide_eq_true (zb_ne h5)
    refine lv_iload_n hx hb d_M_tell_8 rfl (lv_at hl 2 rfl) ?_
    refine zz_cS (index := 109) (n := 1) (As := [.int (nI x)]) (rest := []) ⟨hx, hb, hml, hown, hts⟩ (k_isExM l x hx1) mk_M_109 ms_M_isExponent mi_M mc_M_isExponent (by decide +kernel) ⟨rfl, rfl⟩ ⟨by decide, by decide⟩ preEq rfl hl.1 rfl (Nat.le_of_ble_eq_true rfl) d_M_tell_9 ⟨Nat.zero_le _, Nat.zero_le _⟩ ?_
    refine lv_if_eq (tgt := 38) hx hb d_M_tell_12 rfl (fun h12 => ?_) (fun h12 => ?_)
    · skip
      have hq : tellB ar n x = false := by unfold tellB; rw [zb_eq h12, Bool.false_and, Bool.and_false]
      refine lv_iconst (v := 0) hx hb d_M_tell_38 rfl ?_
      exact W.zret hx hb hr (rfl) (fun t ht hW => ⟨⟨_, ar, rfl, ⟨by rw [hq]; rfl, by rw [hq]; rfl⟩, va_K.moved hW.alike hK, by rw [ht]; exact hP⟩, hS.F ht⟩) hS.2.2 d_M_tell_39
    · skip
      have hE := zb_ne h12
      have hE2 := ex_is hE
      have i1 := his (2 * n) (by omega)
      have i2 := his (2 * n + 1) (by omega)
      refine lv_aload_n hx hb d_M_tell_15 rfl (lv_at hl 0 rfl) ?_
      refine mm_get hx hb hts hown hK hP (index := 40) 10 (by decide) mf_M_40 (v := .ref (am 11)) rfl d_M_tell_16 ?_
      refine lv_iconst (v := 2) hx hb d_M_tell_19 rfl ?_
      refine lv_iload_n hx hb d_M_tell_20 rfl (lv_at hl 1 rfl) ?_
      refine lv_imul hx hb d_M_tell_21 ?_
      refine zz_as (y := nI (2 * n)) (pk_mul 2 n) ?_
      refine mm_ald hx hb hK hP 10 (by decide) rfl (2 * n) rfl (show 2 * n < 16 from by omega) (ar 11 (2 * n)) (rfl) d_M_tell_22 ?_
      refine lv_iload_n hx hb d_M_tell_23 rfl (lv_at hl 2 rfl) ?_
      refine zz_cS (index := 96) (n := 2) (As := [.int (nI (ar 11 (2 * n))), .int (nI x)]) (rest := []) ⟨hx, hb, hml, hown, hts⟩ (k_raised l (ar 11 (2 * n)) x (hbs _ (by omega)) (by omega)) mk_M_96 ms_M_raised mi_M mc_M_raised (by decide +kernel) ⟨rfl, rfl⟩ ⟨by decide, by decide⟩ preEq rfl hl.1 rfl (Nat.le_of_ble_eq_true rfl) d_M_tell_24 ⟨Nat.zero_le _, Nat.zero_le _⟩ ?_
      refine lv_aload_n hx hb d_M_tell_27 rfl (lv_at hl 0 rfl) ?_
      refine mm_get hx hb hts hown hK hP (index := 43) 11 (by decide) mf_M_43 (v := .ref (am 12)) rfl d_M_tell_28 ?_
      refine lv_iconst (v := 2) hx hb d_M_tell_31 rfl ?_
      refine lv_iload_n hx hb d_M_tell_32 rfl (lv_at hl 1 rfl) ?_
      refine lv_imul hx hb d_M_tell_33 ?_
      refine zz_as (y := nI (2 * n)) (pk_mul 2 n) ?_
      refine mm_ald hx hb hK hP 11 (by decide) rfl (2 * n) rfl (show 2 * n < 16 from by omega) (ar 12 (2 * n)) (rfl) d_M_tell_34 ?_
      refine lv_icmp_eq (tgt := 40) hx hb d_M_tell_35 rfl (fun h35 => ?_) (fun h35 => ?_)
      · skip
        have e35 : ar 11 (2 * n) ^ x % 10007 = ar 12 (2 * n) := (zn_inj (Nat.lt_trans (Nat.mod_lt _ (by decide)) (by decide)) (by omega)).mp h35
        refine lv_aload_n hx hb d_M_tell_40 rfl (lv_at hl 0 rfl) ?_
        refine lv_iload_n hx hb d_M_tell_41 rfl (lv_at hl 1 rfl) ?_
        refine lv_iconst (v := 1) hx hb d_M_tell_42 rfl ?_
        refine zz_cV (index := 138) (n := 2) (As := [.int (nI n), .int 1]) (rest := []) ⟨hx, hb, hml, hown, hts⟩ (k_isPairM l D ca am (ar) n 1 hn (by decide) hl2 hbs) mk_M_138 mo_M_isPair me_M_M_isPair_M mi_M mc_M_isPair (by decide +kernel) ⟨rfl, rfl⟩ ⟨by decide, by decide⟩ (mm_pre hK hP) rfl hl.1 rfl (Nat.le_of_ble_eq_true rfl) d_M_tell_43 ⟨Nat.zero_le _, Nat.zero_le _⟩ ?_
        refine lv_if_eq (tgt := 78) hx hb d_M_tell_46 rfl (fun h46 => ?_) (fun h46 => ?_)
        · skip
          have hp := pairB_f hA (zb_eq h46)
          have hq : tellB ar n x = true := by unfold tellB fitn; rw [decide_eq_true hA, hE, decide_eq_true e35, decide_eq_false hp]; rfl
          refine lv_aload_n hx hb d_M_tell_78 rfl (lv_at hl 0 rfl) ?_
          refine mm_get hx hb hts hown hK hP (index := 46) 12 (by decide) mf_M_46 (v := .ref (am 13)) rfl d_M_tell_79 ?_
          refine lv_iload_n hx hb d_M_tell_82 rfl (lv_at hl 1 rfl) ?_
          refine lv_iload_n hx hb d_M_tell_83 rfl (lv_at hl 2 rfl) ?_
          refine mm_ast hx hb hK hP hD hS 12 (by decide) rfl (n) rfl (show n < 8 from by omega) (x) (rfl) d_M_tell_84 (fun H locs hP hS => ?_)
          refine lv_iconst (v := 1) hx hb d_M_tell_85 rfl ?_
          exact W.zret hx hb hr (rfl) (fun t ht hW => ⟨⟨_, zs ar 13 n x, rfl, ⟨by rw [hq]; rfl, by rw [hq]; rfl⟩, va_K.moved hW.alike hK, by rw [ht]; exact hP⟩, hS.F ht⟩) hS.2.2 d_M_tell_86
        · skip
          have hp := (pairB_t (zb_ne h46)).2
          refine lv_aload_n hx hb d_M_tell_49 rfl (lv_at hl 0 rfl) ?_
          refine mm_get hx hb hts hown hK hP (index := 40) 10 (by decide) mf_M_40 (v := .ref (am 11)) rfl d_M_tell_50 ?_
          refine lv_iconst (v := 2) hx hb d_M_tell_53 rfl ?_
          refine lv_iload_n hx hb d_M_tell_54 rfl (lv_at hl 1 rfl) ?_
          refine lv_imul hx hb d_M_tell_55 ?_
          refine zz_as (y := nI (2 * n)) (pk_mul 2 n) ?_
          refine lv_iconst (v := 1) hx hb d_M_tell_56 rfl ?_
          refine lv_iadd hx hb d_M_tell_57 ?_
          refine zz_as (y := nI ((2 * n) + 1)) (nI_add (2 * n) 1) ?_
          refine mm_ald hx hb hK hP 10 (by decide) rfl ((2 * n) + 1) rfl (show (2 * n) + 1 < 16 from by omega) (ar 11 ((2 * n) + 1)) (rfl) d_M_tell_58 ?_
          refine lv_iload_n hx hb d_M_tell_59 rfl (lv_at hl 2 rfl) ?_
          refine zz_cS (index := 96) (n := 2) (As := [.int (nI (ar 11 (2 * n + 1))), .int (nI x)]) (rest := []) ⟨hx, hb, hml, hown, hts⟩ (k_raised l (ar 11 (2 * n + 1)) x (hbs _ (by omega)) (by omega)) mk_M_96 ms_M_raised mi_M mc_M_raised (by decide +kernel) ⟨rfl, rfl⟩ ⟨by decide, by decide⟩ preEq rfl hl.1 rfl (Nat.le_of_ble_eq_true rfl) d_M_tell_60 ⟨Nat.zero_le _, Nat.zero_le _⟩ ?_
          refine lv_aload_n hx hb d_M_tell_63 rfl (lv_at hl 0 rfl) ?_
          refine mm_get hx hb hts hown hK hP (index := 43) 11 (by decide) mf_M_43 (v := .ref (am 12)) rfl d_M_tell_64 ?_
          refine lv_iconst (v := 2) hx hb d_M_tell_67 rfl ?_
          refine lv_iload_n hx hb d_M_tell_68 rfl (lv_at hl 1 rfl) ?_
          refine lv_imul hx hb d_M_tell_69 ?_
          refine zz_as (y := nI (2 * n)) (pk_mul 2 n) ?_
          refine lv_iconst (v := 1) hx hb d_M_tell_70 rfl ?_
          refine lv_iadd hx hb d_M_tell_71 ?_
          refine zz_as (y := nI ((2 * n) + 1)) (nI_add (2 * n) 1) ?_
          refine mm_ald hx hb hK hP 11 (by decide) rfl ((2 * n) + 1) rfl (show (2 * n) + 1 < 16 from by omega) (ar 12 ((2 * n) + 1)) (rfl) d_M_tell_72 ?_
          refine lv_icmp_eq (tgt := 78) hx hb d_M_tell_73 rfl (fun h73 => ?_) (fun h73 => ?_)
          · skip
            have e73 : ar 11 (2 * n + 1) ^ x % 10007 = ar 12 (2 * n + 1) := (zn_inj (Nat.lt_trans (Nat.mod_lt _ (by decide)) (by decide)) (by omega)).mp h73
            have hq : tellB ar n x = true := by unfold tellB fitn; rw [decide_eq_true hA, hE, decide_eq_true e35, decide_eq_true e73, decide_eq_true hp]; rfl
            refine lv_aload_n hx hb d_M_tell_78 rfl (lv_at hl 0 rfl) ?_
            refine mm_get hx hb hts hown hK hP (index := 46) 12 (by decide) mf_M_46 (v := .ref (am 13)) rfl d_M_tell_79 ?_
            refine lv_iload_n hx hb d_M_tell_82 rfl (lv_at hl 1 rfl) ?_
            refine lv_iload_n hx hb d_M_tell_83 rfl (lv_at hl 2 rfl) ?_
            refine mm_ast hx hb hK hP hD hS 12 (by decide) rfl (n) rfl (show n < 8 from by omega) (x) (rfl) d_M_tell_84 (fun H locs hP hS => ?_)
            refine lv_iconst (v := 1) hx hb d_M_tell_85 rfl ?_
            exact W.zret hx hb hr (rfl) (fun t ht hW => ⟨⟨_, zs ar 13 n x, rfl, ⟨by rw [hq]; rfl, by rw [hq]; rfl⟩, va_K.moved hW.alike hK, by rw [ht]; exact hP⟩, hS.F ht⟩) hS.2.2 d_M_tell_86
          · skip
            have e73 : ¬ ar 11 (2 * n + 1) ^ x % 10007 = ar 12 (2 * n + 1) := fun z => h73 (by rw [z])
            have hq : tellB ar n x = false := by unfold tellB fitn; rw [decide_eq_false e73, decide_eq_true hp, Bool.not_true, Bool.or_false, Bool.and_false, Bool.and_false, Bool.and_false]
            refine lv_iconst (v := 0) hx hb d_M_tell_76 rfl ?_
            exact W.zret hx hb hr (rfl) (fun t ht hW => ⟨⟨_, ar, rfl, ⟨by rw [hq]; rfl, by rw [hq]; rfl⟩, va_K.moved hW.alike hK, by rw [ht]; exact hP⟩, hS.F ht⟩) hS.2.2 d_M_tell_77
      · skip
        have e35 : ¬ ar 11 (2 * n) ^ x % 10007 = ar 12 (2 * n) := fun z => h35 (by rw [z])
        have hq : tellB ar n x = false := by unfold tellB fitn; rw [decide_eq_false e35, Bool.false_and, Bool.and_false, Bool.and_false]
        refine lv_iconst (v := 0) hx hb d_M_tell_38 rfl ?_
        exact W.zret hx hb hr (rfl) (fun t ht hW => ⟨⟨_, ar, rfl, ⟨by rw [hq]; rfl, by rw [hq]; rfl⟩, va_K.moved hW.alike hK, by rw [ht]; exact hP⟩, hS.F ht⟩) hS.2.2 d_M_tell_39

theorem d_M_witness_0 : decode c_M_witness 0 = .ok (.aload_n 0, 1) := by decide +kernel
theorem d_M_witness_1 : decode c_M_witness 1 = .ok (.getfield 122, 3) := by decide +kernel
theorem d_M_witness_4 : decode c_M_witness 4 = .ok (.ifCond .ne 6, 3) := by decide +kernel
theorem d_M_witness_7 : decode c_M_witness 7 = .ok (.bipush (-2), 2) := by decide +kernel
theorem d_M_witness_9 : decode c_M_witness 9 = .ok (.ireturn, 1) := by decide +kernel
theorem d_M_witness_10 : decode c_M_witness 10 = .ok (.aload_n 0, 1) := by decide +kernel
theorem d_M_witness_11 : decode c_M_witness 11 = .ok (.iload_n 1, 1) := by decide +kernel
theorem d_M_witness_12 : decode c_M_witness 12 = .ok (.invokevirtual 135, 3) := by decide +kernel
theorem d_M_witness_15 : decode c_M_witness 15 = .ok (.ifCond .ne 5, 3) := by decide +kernel
theorem d_M_witness_18 : decode c_M_witness 18 = .ok (.iconst (-1), 1) := by decide +kernel
theorem d_M_witness_19 : decode c_M_witness 19 = .ok (.ireturn, 1) := by decide +kernel
theorem d_M_witness_20 : decode c_M_witness 20 = .ok (.aload_n 0, 1) := by decide +kernel
theorem d_M_witness_21 : decode c_M_witness 21 = .ok (.getfield 46, 3) := by decide +kernel
theorem d_M_witness_24 : decode c_M_witness 24 = .ok (.iload_n 1, 1) := by decide +kernel
theorem d_M_witness_25 : decode c_M_witness 25 = .ok (.iaload, 1) := by decide +kernel
theorem d_M_witness_26 : decode c_M_witness 26 = .ok (.ifCond .ge 8, 3) := by decide +kernel
theorem d_M_witness_29 : decode c_M_witness 29 = .ok (.bipush (-3), 2) := by decide +kernel
theorem d_M_witness_31 : decode c_M_witness 31 = .ok (.goto 9, 3) := by decide +kernel
theorem d_M_witness_34 : decode c_M_witness 34 = .ok (.aload_n 0, 1) := by decide +kernel
theorem d_M_witness_35 : decode c_M_witness 35 = .ok (.getfield 46, 3) := by decide +kernel
theorem d_M_witness_38 : decode c_M_witness 38 = .ok (.iload_n 1, 1) := by decide +kernel
theorem d_M_witness_39 : decode c_M_witness 39 = .ok (.iaload, 1) := by decide +kernel
theorem d_M_witness_40 : decode c_M_witness 40 = .ok (.ireturn, 1) := by decide +kernel

set_option maxHeartbeats 4000000 in
set_option maxRecDepth 100000 in
/-- witness(n) -/
theorem k_witnessM (l : Launch) (D : va_G) (ca : Nat → ClassId) (am : Nat → Nat) (ar : Nat → Nat → Nat) (n : Nat) (hn : n < 2 ^ 32) (hs1 : ar 0 1 ≤ 15) (hl2 : ar 0 2 ≤ 8) (hw : ∀ i, i < 8 → ar 13 i < 2 ^ 32) : Met l y_M_witness (Cond.code y_M_witness c_M_witness 2 (some .int) :: zT) ({ frames := 2, cells := 0, slots := 0, locals := 80 }) (va_Pc [.ref (am 0), .int (nI n)] (mw D ca am ar)) (QcRead (if ar 0 1 = 0 then -2 else if n < ar 0 2 then (if ar 13 n < 2147483648 then nI (ar 13 n) else -3) else -1)) 0 0 (fun _ => False) := by
  refine Met.ofW (cc := c_M_witness) (maxL := 2) (ret := (some .int)) (by decide) rfl ?_
  intro p e s m args below meth c s₁ B hml hv
  obtain ⟨rfl, hK, hP⟩ := hv
  have hx := B.exec
  have hb := B.bytes
  have hr := B.returns
  have hts0 := atoms_spec (ws := Cond.code y_M_witness c_M_witness 2 (some .int) :: zT) B.pre
  have hts := fun w h => hts0 w (List.mem_cons_of_mem _ h)
  have hown : s.vm.findClass R_M = some m.cls := findClass_of_methodNamed B.named
  have hlocks := B.notSynchronized
  have hl := lv_entry ([.ref (am 0), .int (nI n)]) (n := 2) (Nat.le_of_ble_eq_true rfl)
  rw [lg_entry_eq]
  generalize (lg_sl ([.ref (am 0), .int (nI n)]) ++ List.replicate (2 - (lg_sl ([.ref (am 0), .int (nI n)])).length) Slot.unset).toArray = ls at hl ⊢
  have hl : lv_has ls 2 [(0, .ref (am 0)), (1, .int (nI n))] := hl
  refine lv_aload_n hx hb d_M_witness_0 rfl (lv_at hl 0 rfl) ?_
  refine mm_get hx hb hts hown hK hP (index := 122) 28 (by decide) mf_M_122 (v := .int (nI (ar 0 1))) rfl d_M_witness_1 ?_
  refine lv_if_ne (tgt := 10) hx hb d_M_witness_4 rfl (fun h4 => ?_) (fun h4 => ?_)
  · skip
    have z : ¬ ar 0 1 = 0 := fun q => h4 (by rw [q]; rfl)
    refine lv_aload_n hx hb d_M_witness_10 rfl (lv_at hl 0 rfl) ?_
    refine lv_iload_n hx hb d_M_witness_11 rfl (lv_at hl 1 rfl) ?_
    refine zz_cV (index := 135) (n := 1) (As := [.int (nI n)]) (rest := []) ⟨hx, hb, hml, hown, hts⟩ (k_isLeafM l D ca am (ar) n hn hl2) mk_M_135 mo_M_isLeaf me_M_M_isLeaf_M mi_M mc_M_isLeaf (by decide +kernel) ⟨rfl, rfl⟩ ⟨by decide, by decide⟩ (mm_pre hK hP) rfl hl.1 rfl (Nat.le_of_ble_eq_true rfl) d_M_witness_12 ⟨Nat.zero_le _, Nat.zero_le _⟩ ?_
    refine lv_if_ne (tgt := 20) hx hb d_M_witness_15 rfl (fun h15 => ?_) (fun h15 => ?_)
    · skip
      have y : n < ar 0 2 := of_decide_eq_true (zb_ne h15)
      have hw2 := hw n (by omega)
      refine lv_aload_n hx hb d_M_witness_20 rfl (lv_at hl 0 rfl) ?_
      refine mm_get hx hb hts hown hK hP (index := 46) 12 (by decide) mf_M_46 (v := .ref (am 13)) rfl d_M_witness_21 ?_
      refine lv_iload_n hx hb d_M_witness_24 rfl (lv_at hl 1 rfl) ?_
      refine mm_ald hx hb hK hP 12 (by decide) rfl (n) rfl (show n < 8 from by omega) (ar 13 n) (rfl) d_M_witness_25 ?_
      refine lv_if_ge (tgt := 34) hx hb d_M_witness_26 rfl (fun h26 => ?_) (fun h26 => ?_)
      · skip
        have v : ar 13 n < 2147483648 := (zn_ge0 hw2).mp h26
        have hq : (if ar 0 1 = 0 then -2 else if n < ar 0 2 then (if ar 13 n < 2147483648 then nI (ar 13 n) else -3) else -1) = nI (ar 13 n) := by rw [if_neg z, if_pos y, if_pos v]
        refine lv_aload_n hx hb d_M_witness_34 rfl (lv_at hl 0 rfl) ?_
        refine mm_get hx hb hts hown hK hP (index := 46) 12 (by decide) mf_M_46 (v := .ref (am 13)) rfl d_M_witness_35 ?_
        refine lv_iload_n hx hb d_M_witness_38 rfl (lv_at hl 1 rfl) ?_
        refine mm_ald hx hb hK hP 12 (by decide) rfl (n) rfl (show n < 8 from by omega) (ar 13 n) (rfl) d_M_witness_39 ?_
        refine zz_as (y := if ar 0 1 = 0 then -2 else if n < ar 0 2 then (if ar 13 n < 2147483648 then nI (ar 13 n) else -3) else -1) (hq.symm) ?_
        exact W.iret hx hb hr (fun t ht hW => ⟨rfl, ht⟩) (fun q h => absurd h List.not_mem_nil) d_M_witness_40
      · skip
        have v : ¬ ar 13 n < 2147483648 := mt (zn_ge0 hw2).mpr h26
        have hq : (if ar 0 1 = 0 then -2 else if n < ar 0 2 then (if ar 13 n < 2147483648 then nI (ar 13 n) else -3) else -1) = (-3 : Int32) := by rw [if_neg z, if_pos y, if_neg v]
        refine lv_bipush (v := (-3)) hx hb d_M_witness_29 rfl ?_
        refine lv_goto (tgt := 40) hx hb d_M_witness_31 rfl ?_
        refine zz_as (y := if ar 0 1 = 0 then -2 else if n < ar 0 2 then (if ar 13 n < 2147483648 then nI (ar 13 n) else -3) else -1) (hq.symm) ?_
        exact W.iret hx hb hr (fun t ht hW => ⟨rfl, ht⟩) (fun q h => absurd h List.not_mem_nil) d_M_witness_40
    · skip
      have y : ¬ n < ar 0 2 := of_decide_eq_false (zb_eq h15)
      have hq : (if ar 0 1 = 0 then -2 else if n < ar 0 2 then (if ar 13 n < 2147483648 then nI (ar 13 n) else -3) else -1) = (-1 : Int32) := by rw [if_neg z, if_neg y]
      refine lv_iconst (v := (-1)) hx hb d_M_witness_18 rfl ?_
      refine zz_as (y := if ar 0 1 = 0 then -2 else if n < ar 0 2 then (if ar 13 n < 2147483648 then nI (ar 13 n) else -3) else -1) (hq.symm) ?_
      exact W.iret hx hb hr (fun t ht hW => ⟨rfl, ht⟩) (fun q h => absurd h List.not_mem_nil) d_M_witness_19
  · skip
    have z : ar 0 1 = 0 := (zn_inj (by omega) (by decide)).mp h4
    have hq : (if ar 0 1 = 0 then -2 else if n < ar 0 2 then (if ar 13 n < 2147483648 then nI (ar 13 n) else -3) else -1) = (-2 : Int32) := by rw [if_pos z]
    refine lv_bipush (v := (-2)) hx hb d_M_witness_7 rfl ?_
    refine zz_as (y := if ar 0 1 = 0 then -2 else if n < ar 0 2 then (if ar 13 n < 2147483648 then nI (ar 13 n) else -3) else -1) (hq.symm) ?_
    exact W.iret hx hb hr (fun t ht hW => ⟨rfl, ht⟩) (fun q h => absurd h List.not_mem_nil) d_M_witness_9

theorem d_M_isPart_0 : decode c_M_isPart 0 = .ok (.aload_n 0, 1) := by decide +kernel
theorem d_M_isPart_1 : decode c_M_isPart 1 = .ok (.iload_n 1, 1) := by decide +kernel
theorem d_M_isPart_2 : decode c_M_isPart 2 = .ok (.invokevirtual 135, 3) := by decide +kernel
theorem d_M_isPart_5 : decode c_M_isPart 5 = .ok (.ifCond .eq 30, 3) := by decide +kernel
theorem d_M_isPart_8 : decode c_M_isPart 8 = .ok (.iload_n 2, 1) := by decide +kernel
theorem d_M_isPart_9 : decode c_M_isPart 9 = .ok (.ifCond .lt 26, 3) := by decide +kernel
theorem d_M_isPart_12 : decode c_M_isPart 12 = .ok (.iload_n 2, 1) := by decide +kernel
theorem d_M_isPart_13 : decode c_M_isPart 13 = .ok (.iconst 3, 1) := by decide +kernel
theorem d_M_isPart_14 : decode c_M_isPart 14 = .ok (.if_icmp .gt 21, 3) := by decide +kernel
theorem d_M_isPart_17 : decode c_M_isPart 17 = .ok (.iload_n 2, 1) := by decide +kernel
theorem d_M_isPart_18 : decode c_M_isPart 18 = .ok (.iconst 1, 1) := by decide +kernel
theorem d_M_isPart_19 : decode c_M_isPart 19 = .ok (.if_icmp .ne 12, 3) := by decide +kernel
theorem d_M_isPart_22 : decode c_M_isPart 22 = .ok (.aload_n 0, 1) := by decide +kernel
theorem d_M_isPart_23 : decode c_M_isPart 23 = .ok (.iload_n 1, 1) := by decide +kernel
theorem d_M_isPart_24 : decode c_M_isPart 24 = .ok (.iconst 1, 1) := by decide +kernel
theorem d_M_isPart_25 : decode c_M_isPart 25 = .ok (.invokevirtual 138, 3) := by decide +kernel
theorem d_M_isPart_28 : decode c_M_isPart 28 = .ok (.ifCond .eq 7, 3) := by decide +kernel
theorem d_M_isPart_31 : decode c_M_isPart 31 = .ok (.iconst 1, 1) := by decide +kernel
theorem d_M_isPart_32 : decode c_M_isPart 32 = .ok (.goto 4, 3) := by decide +kernel
theorem d_M_isPart_35 : decode c_M_isPart 35 = .ok (.iconst 0, 1) := by decide +kernel
theorem d_M_isPart_36 : decode c_M_isPart 36 = .ok (.ireturn, 1) := by decide +kernel

set_option maxHeartbeats 4000000 in
set_option maxRecDepth 100000 in
/-- isPart(n, w) -/
theorem k_isPartM (l : Launch) (D : va_G) (ca : Nat → ClassId) (am : Nat → Nat) (ar : Nat → Nat → Nat) (n w : Nat) (hn : n < 2 ^ 32) (hw : w < 2 ^ 32) (hl2 : ar 0 2 ≤ 8) (hbs : ∀ i, i < 16 → ar 11 i < 10007) : Met l y_M_isPart (Cond.code y_M_isPart c_M_isPart 3 (some .boolean) :: zT) ({ frames := 3, cells := 0, slots := 0, locals := 120 }) (va_Pc [.ref (am 0), .int (nI n), .int (nI w)] (mw D ca am ar)) (QcRead (zb (partB ar n w))) 0 0 (fun _ => False) := by
  refine Met.ofW (cc := c_M_isPart) (maxL := 3) (ret := (some .boolean)) (by decide) rfl ?_
  intro p e s m args below meth c s₁ B hml hv
  obtain ⟨rfl, hK, hP⟩ := hv
  have hx := B.exec
  have hb := B.bytes
  have hr := B.returns
  have hts0 := atoms_spec (ws := Cond.code y_M_isPart c_M_isPart 3 (some .boolean) :: zT) B.pre
  have hts := fun w h => hts0 w (List.mem_cons_of_mem _ h)
  have hown : s.vm.findClass R_M = some m.cls := findClass_of_methodNamed B.named
  have hlocks := B.notSynchronized
  have hl := lv_entry ([.ref (am 0), .int (nI n), .int (nI w)]) (n := 3) (Nat.le_of_ble_eq_true rfl)
  rw [lg_entry_eq]
  generalize (lg_sl ([.ref (am 0), .int (nI n), .int (nI w)]) ++ List.replicate (3 - (lg_sl ([.ref (am 0), .int (nI n), .int (nI w)])).length) Slot.unset).toArray = ls at hl ⊢
  have hl : lv_has ls 3 [(0, .ref (am 0)), (1, .int (nI n)), (2, .int (nI w))] := hl
  refine lv_aload_n hx hb d_M_isPart_0 rfl (lv_at hl 0 rfl) ?_
  refine lv_iload_n hx hb d_M_isPart_1 rfl (lv_at hl 1 rfl) ?_
  refine zz_cV (index := 135) (n := 1) (As := [.int (nI n)]) (rest := []) ⟨hx, hb, hml, hown, hts⟩ (k_isLeafM l D ca am (ar) n hn hl2) mk_M_135 mo_M_isLeaf me_M_M_isLeaf_M mi_M mc_M_isLeaf (by decide +kernel) ⟨rfl, rfl⟩ ⟨by decide, by decide⟩ (mm_pre hK hP) rfl hl.1 rfl (Nat.le_of_ble_eq_true rfl) d_M_isPart_2 ⟨Nat.zero_le _, Nat.zero_le _⟩ ?_
  refine lv_if_eq (tgt := 35) hx hb d_M_isPart_5 rfl (fun h5 => ?_) (fun h5 => ?_)
  · skip
    have hq : partB ar n w = false := by unfold partB; rw [zb_eq h5, Bool.false_and]
    refine lv_iconst (v := 0) hx hb d_M_isPart_35 rfl ?_
    refine zz_as (y := zb (partB ar n w)) (by rw [hq]; rfl) ?_
    exact W.zret hx hb hr (zb_nar _) (fun t ht hW => ⟨rfl, ht⟩) (fun q h => absurd h List.not_mem_nil) d_M_isPart_36
  · skip
    have hA := zb_ne h5
    refine lv_iload_n hx hb d_M_isPart_8 rfl (lv_at hl 2 rfl) ?_
    refine lv_if_lt (tgt := 35) hx hb d_M_isPart_9 rfl (fun h9 => ?_) (fun h9 => ?_)
    · skip
      have hq : partB ar n w = false := by unfold partB; rw [decide_eq_false (show ¬ w < 4 by have := (zn_lt0 hw).mp h9; omega), Bool.false_and, Bool.and_false]
      refine lv_iconst (v := 0) hx hb d_M_isPart_35 rfl ?_
      refine zz_as (y := zb (partB ar n w)) (by rw [hq]; rfl) ?_
      exact W.zret hx hb hr (zb_nar _) (fun t ht hW => ⟨rfl, ht⟩) (fun q h => absurd h List.not_mem_nil) d_M_isPart_36
    · skip
      refine lv_iload_n hx hb d_M_isPart_12 rfl (lv_at hl 2 rfl) ?_
      refine lv_iconst (v := 3) hx hb d_M_isPart_13 rfl ?_
      refine lv_icmp_gt (tgt := 35) hx hb d_M_isPart_14 rfl (fun h14 => ?_) (fun h14 => ?_)
      · skip
        have hq : partB ar n w = false := by unfold partB; rw [decide_eq_false (show ¬ w < 4 by have := (zn_gt (b := 3) hw (by decide)).mp h14; omega), Bool.false_and, Bool.and_false]
        refine lv_iconst (v := 0) hx hb d_M_isPart_35 rfl ?_
        refine zz_as (y := zb (partB ar n w)) (by rw [hq]; rfl) ?_
        exact W.zret hx hb hr (zb_nar _) (fun t ht hW => ⟨rfl, ht⟩) (fun q h => absurd h List.not_mem_nil) d_M_isPart_36
      · skip
        have hW4 : w < 4 := by have a := mt (zn_gt (b := 3) hw (by decide)).mpr h14; have b := mt (zn_lt0 hw).mpr h9; omega
        refine lv_iload_n hx hb d_M_isPart_17 rfl (lv_at hl 2 rfl) ?_
        refine lv_iconst (v := 1) hx hb d_M_isPart_18 rfl ?_
        refine lv_icmp_ne (tgt := 31) hx hb d_M_isPart_19 rfl (fun h19 => ?_) (fun h19 => ?_)
        · skip
          have w1 : ¬ w = 1 := fun q => h19 (by rw [q]; rfl)
          have hq : partB ar n w = true := by unfold partB; rw [hA, decide_eq_true hW4, decide_eq_false w1]; rfl
          refine lv_iconst (v := 1) hx hb d_M_isPart_31 rfl ?_
          refine lv_goto (tgt := 36) hx hb d_M_isPart_32 rfl ?_
          refine zz_as (y := zb (partB ar n w)) (by rw [hq]; rfl) ?_
          exact W.zret hx hb hr (zb_nar _) (fun t ht hW => ⟨rfl, ht⟩) (fun q h => absurd h List.not_mem_nil) d_M_isPart_36
        · skip
          have w1 : w = 1 := (zn_inj hw (by decide)).mp h19
          refine lv_aload_n hx hb d_M_isPart_22 rfl (lv_at hl 0 rfl) ?_
          refine lv_iload_n hx hb d_M_isPart_23 rfl (lv_at hl 1 rfl) ?_
          refine lv_iconst (v := 1) hx hb d_M_isPart_24 rfl ?_
          refine zz_cV (index := 138) (n := 2) (As := [.int (nI n), .int 1]) (rest := []) ⟨hx, hb, hml, hown, hts⟩ (k_isPairM l D ca am (ar) n 1 hn (by decide) hl2 hbs) mk_M_138 mo_M_isPair me_M_M_isPair_M mi_M mc_M_isPair (by decide +kernel) ⟨rfl, rfl⟩ ⟨by decide, by decide⟩ (mm_pre hK hP) rfl hl.1 rfl (Nat.le_of_ble_eq_true rfl) d_M_isPart_25 ⟨Nat.zero_le _, Nat.zero_le _⟩ ?_
          refine lv_if_eq (tgt := 35) hx hb d_M_isPart_28 rfl (fun h28 => ?_) (fun h28 => ?_)
          · skip
            have hq : partB ar n w = false := by unfold partB; rw [zb_eq h28, decide_eq_true w1, Bool.not_true, Bool.or_false, Bool.and_false, Bool.and_false]
            refine lv_iconst (v := 0) hx hb d_M_isPart_35 rfl ?_
            refine zz_as (y := zb (partB ar n w)) (by rw [hq]; rfl) ?_
            exact W.zret hx hb hr (zb_nar _) (fun t ht hW => ⟨rfl, ht⟩) (fun q h => absurd h List.not_mem_nil) d_M_isPart_36
          · skip
            have hq : partB ar n w = true := by unfold partB; rw [hA, decide_eq_true hW4, zb_ne h28, Bool.or_true]; rfl
            refine lv_iconst (v := 1) hx hb d_M_isPart_31 rfl ?_
            refine lv_goto (tgt := 36) hx hb d_M_isPart_32 rfl ?_
            refine zz_as (y := zb (partB ar n w)) (by rw [hq]; rfl) ?_
            exact W.zret hx hb hr (zb_nar _) (fun t ht hW => ⟨rfl, ht⟩) (fun q h => absurd h List.not_mem_nil) d_M_isPart_36

theorem d_M_part_0 : decode c_M_part 0 = .ok (.aload_n 0, 1) := by decide +kernel
theorem d_M_part_1 : decode c_M_part 1 = .ok (.getfield 122, 3) := by decide +kernel
theorem d_M_part_4 : decode c_M_part 4 = .ok (.ifCond .ne 6, 3) := by decide +kernel
theorem d_M_part_7 : decode c_M_part 7 = .ok (.bipush (-2), 2) := by decide +kernel
theorem d_M_part_9 : decode c_M_part 9 = .ok (.ireturn, 1) := by decide +kernel
theorem d_M_part_10 : decode c_M_part 10 = .ok (.aload_n 0, 1) := by decide +kernel
theorem d_M_part_11 : decode c_M_part 11 = .ok (.iload_n 1, 1) := by decide +kernel
theorem d_M_part_12 : decode c_M_part 12 = .ok (.iload_n 2, 1) := by decide +kernel
theorem d_M_part_13 : decode c_M_part 13 = .ok (.invokevirtual 201, 3) := by decide +kernel
theorem d_M_part_16 : decode c_M_part 16 = .ok (.ifCond .ne 5, 3) := by decide +kernel
theorem d_M_part_19 : decode c_M_part 19 = .ok (.iconst (-1), 1) := by decide +kernel
theorem d_M_part_20 : decode c_M_part 20 = .ok (.ireturn, 1) := by decide +kernel
theorem d_M_part_21 : decode c_M_part 21 = .ok (.iload_n 2, 1) := by decide +kernel
theorem d_M_part_22 : decode c_M_part 22 = .ok (.iconst 2, 1) := by decide +kernel
theorem d_M_part_23 : decode c_M_part 23 = .ok (.if_icmp .ge 16, 3) := by decide +kernel
theorem d_M_part_26 : decode c_M_part 26 = .ok (.aload_n 0, 1) := by decide +kernel
theorem d_M_part_27 : decode c_M_part 27 = .ok (.getfield 49, 3) := by decide +kernel
theorem d_M_part_30 : decode c_M_part 30 = .ok (.iconst 2, 1) := by decide +kernel
theorem d_M_part_31 : decode c_M_part 31 = .ok (.iload_n 1, 1) := by decide +kernel
theorem d_M_part_32 : decode c_M_part 32 = .ok (.imul, 1) := by decide +kernel
theorem d_M_part_33 : decode c_M_part 33 = .ok (.iload_n 2, 1) := by decide +kernel
theorem d_M_part_34 : decode c_M_part 34 = .ok (.iadd, 1) := by decide +kernel
theorem d_M_part_35 : decode c_M_part 35 = .ok (.iaload, 1) := by decide +kernel
theorem d_M_part_36 : decode c_M_part 36 = .ok (.goto 23, 3) := by decide +kernel
theorem d_M_part_39 : decode c_M_part 39 = .ok (.iload_n 2, 1) := by decide +kernel
theorem d_M_part_40 : decode c_M_part 40 = .ok (.iconst 2, 1) := by decide +kernel
theorem d_M_part_41 : decode c_M_part 41 = .ok (.if_icmp .ne 12, 3) := by decide +kernel
theorem d_M_part_44 : decode c_M_part 44 = .ok (.aload_n 0, 1) := by decide +kernel
theorem d_M_part_45 : decode c_M_part 45 = .ok (.getfield 52, 3) := by decide +kernel
theorem d_M_part_48 : decode c_M_part 48 = .ok (.iload_n 1, 1) := by decide +kernel
theorem d_M_part_49 : decode c_M_part 49 = .ok (.iaload, 1) := by decide +kernel
theorem d_M_part_50 : decode c_M_part 50 = .ok (.goto 9, 3) := by decide +kernel
theorem d_M_part_53 : decode c_M_part 53 = .ok (.aload_n 0, 1) := by decide +kernel
theorem d_M_part_54 : decode c_M_part 54 = .ok (.getfield 55, 3) := by decide +kernel
theorem d_M_part_57 : decode c_M_part 57 = .ok (.iload_n 1, 1) := by decide +kernel
theorem d_M_part_58 : decode c_M_part 58 = .ok (.iaload, 1) := by decide +kernel
theorem d_M_part_59 : decode c_M_part 59 = .ok (.ireturn, 1) := by decide +kernel

set_option maxHeartbeats 4000000 in
set_option maxRecDepth 100000 in
/-- part(n, w) -/
theorem k_partM (l : Launch) (D : va_G) (ca : Nat → ClassId) (am : Nat → Nat) (ar : Nat → Nat → Nat) (n w : Nat) (hn : n < 2 ^ 32) (hw : w < 2 ^ 32) (hl2 : ar 0 2 ≤ 8) (hbs : ∀ i, i < 16 → ar 11 i < 10007) (hs1 : ar 0 1 ≤ 15) : Met l y_M_part (Cond.code y_M_part c_M_part 3 (some .int) :: zT) ({ frames := 4, cells := 0, slots := 0, locals := 160 }) (va_Pc [.ref (am 0), .int (nI n), .int (nI w)] (mw D ca am ar)) (QcRead (if ar 0 1 = 0 then -2 else if partB ar n w then nI (pv ar n w) else -1)) 0 0 (fun _ => False) := by
  refine Met.ofW (cc := c_M_part) (maxL := 3) (ret := (some .int)) (by decide) rfl ?_
  intro p e s m args below meth c s₁ B hml hv
  obtain ⟨rfl, hK, hP⟩ := hv
  have hx := B.exec
  have hb := B.bytes
  have hr := B.returns
  have hts0 := atoms_spec (ws := Cond.code y_M_part c_M_part 3 (some .int) :: zT) B.pre
  have hts := fun w h => hts0 w (List.mem_cons_of_mem _ h)
  have hown : s.vm.findClass R_M = some m.cls := findClass_of_methodNamed B.named
  have hlocks := B.notSynchronized
  have hl := lv_entry ([.ref (am 0), .int (nI n), .int (nI w)]) (n := 3) (Nat.le_of_ble_eq_true rfl)
  rw [lg_entry_eq]
  generalize (lg_sl ([.ref (am 0), .int (nI n), .int (nI w)]) ++ List.replicate (3 - (lg_sl ([.ref (am 0), .int (nI n), .int (nI w)])).length) Slot.unset).toArray = ls at hl ⊢
  have hl : lv_has ls 3 [(0, .ref (am 0)), (1, .int (nI n)), (2, .int (nI w))] := hl
  refine lv_aload_n hx hb d_M_part_0 rfl (lv_at hl 0 rfl) ?_
  refine mm_get hx hb hts hown hK hP (index := 122) 28 (by decide) mf_M_122 (v := .int (nI (ar 0 1))) rfl d_M_part_1 ?_
  refine lv_if_ne (tgt := 10) hx hb d_M_part_4 rfl (fun h4 => ?_) (fun h4 => ?_)
  · skip
    have z : ¬ ar 0 1 = 0 := fun q => h4 (by rw [q]; rfl)
    refine lv_aload_n hx hb d_M_part_10 rfl (lv_at hl 0 rfl) ?_
    refine lv_iload_n hx hb d_M_part_11 rfl (lv_at hl 1 rfl) ?_
    refine lv_iload_n hx hb d_M_part_12 rfl (lv_at hl 2 rfl) ?_
    refine zz_cV (index := 201) (n := 2) (As := [.int (nI n), .int (nI w)]) (rest := []) ⟨hx, hb, hml, hown, hts⟩ (k_isPartM l D ca am (ar) n w hn hw hl2 hbs) mk_M_201 mo_M_isPart me_M_M_isPart_M mi_M mc_M_isPart (by decide +kernel) ⟨rfl, rfl⟩ ⟨by decide, by decide⟩ (mm_pre hK hP) rfl hl.1 rfl (Nat.le_of_ble_eq_true rfl) d_M_part_13 ⟨Nat.zero_le _, Nat.zero_le _⟩ ?_
    refine lv_if_ne (tgt := 21) hx hb d_M_part_16 rfl (fun h16 => ?_) (fun h16 => ?_)
    · skip
      have y := zb_ne h16
      obtain ⟨hA, hW4⟩ := partB_t y
      refine lv_iload_n hx hb d_M_part_21 rfl (lv_at hl 2 rfl) ?_
      refine lv_iconst (v := 2) hx hb d_M_part_22 rfl ?_
      refine lv_icmp_ge (tgt := 39) hx hb d_M_part_23 rfl (fun h23 => ?_) (fun h23 => ?_)
      · skip
        have w2 : ¬ w < 2 := by have := (zn_le (b := 2) hw (by decide)).mp h23; omega
        refine lv_iload_n hx hb d_M_part_39 rfl (lv_at hl 2 rfl) ?_
        refine lv_iconst (v := 2) hx hb d_M_part_40 rfl ?_
        refine lv_icmp_ne (tgt := 53) hx hb d_M_part_41 rfl (fun h41 => ?_) (fun h41 => ?_)
        · skip
          have w3 : ¬ w = 2 := fun q => h41 (by rw [q]; rfl)
          have hq : (if ar 0 1 = 0 then -2 else if partB ar n w then nI (pv ar n w) else -1) = nI (ar 16 n) := by rw [if_neg z, y, if_pos rfl, pv, if_neg w2, if_neg w3]
          refine lv_aload_n hx hb d_M_part_53 rfl (lv_at hl 0 rfl) ?_
          refine mm_get hx hb hts hown hK hP (index := 55) 15 (by decide) mf_M_55 (v := .ref (am 16)) rfl d_M_part_54 ?_
          refine lv_iload_n hx hb d_M_part_57 rfl (lv_at hl 1 rfl) ?_
          refine mm_ald hx hb hK hP 15 (by decide) rfl (n) rfl (show n < 8 from by omega) (ar 16 n) (rfl) d_M_part_58 ?_
          refine zz_as (y := if ar 0 1 = 0 then -2 else if partB ar n w then nI (pv ar n w) else -1) (hq.symm) ?_
          exact W.iret hx hb hr (fun t ht hW => ⟨rfl, ht⟩) (fun q h => absurd h List.not_mem_nil) d_M_part_59
        · skip
          have w3 : w = 2 := (zn_inj hw (by decide)).mp h41
          have hq : (if ar 0 1 = 0 then -2 else if partB ar n w then nI (pv ar n w) else -1) = nI (ar 15 n) := by rw [if_neg z, y, if_pos rfl, pv, if_neg w2, if_pos w3]
          refine lv_aload_n hx hb d_M_part_44 rfl (lv_at hl 0 rfl) ?_
          refine mm_get hx hb hts hown hK hP (index := 52) 14 (by decide) mf_M_52 (v := .ref (am 15)) rfl d_M_part_45 ?_
          refine lv_iload_n hx hb d_M_part_48 rfl (lv_at hl 1 rfl) ?_
          refine mm_ald hx hb hK hP 14 (by decide) rfl (n) rfl (show n < 8 from by omega) (ar 15 n) (rfl) d_M_part_49 ?_
          refine lv_goto (tgt := 59) hx hb d_M_part_50 rfl ?_
          refine zz_as (y := if ar 0 1 = 0 then -2 else if partB ar n w then nI (pv ar n w) else -1) (hq.symm) ?_
          exact W.iret hx hb hr (fun t ht hW => ⟨rfl, ht⟩) (fun q h => absurd h List.not_mem_nil) d_M_part_59
      · skip
        have w2 : w < 2 := by have := mt (zn_le (b := 2) hw (by decide)).mpr h23; omega
        have hq : (if ar 0 1 = 0 then -2 else if partB ar n w then nI (pv ar n w) else -1) = nI (ar 14 (2 * n + w)) := by rw [if_neg z, y, if_pos rfl, pv, if_pos w2]
        refine lv_aload_n hx hb d_M_part_26 rfl (lv_at hl 0 rfl) ?_
        refine mm_get hx hb hts hown hK hP (index := 49) 13 (by decide) mf_M_49 (v := .ref (am 14)) rfl d_M_part_27 ?_
        refine lv_iconst (v := 2) hx hb d_M_part_30 rfl ?_
        refine lv_iload_n hx hb d_M_part_31 rfl (lv_at hl 1 rfl) ?_
        refine lv_imul hx hb d_M_part_32 ?_
        refine zz_as (y := nI (2 * n)) (pk_mul 2 n) ?_
        refine lv_iload_n hx hb d_M_part_33 rfl (lv_at hl 2 rfl) ?_
        refine lv_iadd hx hb d_M_part_34 ?_
        refine zz_as (y := nI ((2 * n) + w)) (nI_add (2 * n) w) ?_
        refine mm_ald hx hb hK hP 13 (by decide) rfl ((2 * n) + w) rfl (show (2 * n) + w < 16 from by omega) (ar 14 ((2 * n) + w)) (rfl) d_M_part_35 ?_
        refine lv_goto (tgt := 59) hx hb d_M_part_36 rfl ?_
        refine zz_as (y := if ar 0 1 = 0 then -2 else if partB ar n w then nI (pv ar n w) else -1) (hq.symm) ?_
        exact W.iret hx hb hr (fun t ht hW => ⟨rfl, ht⟩) (fun q h => absurd h List.not_mem_nil) d_M_part_59
    · skip
      have hq : (if ar 0 1 = 0 then -2 else if partB ar n w then nI (pv ar n w) else -1) = (-1 : Int32) := by rw [if_neg z, zb_eq h16]; rfl
      refine lv_iconst (v := (-1)) hx hb d_M_part_19 rfl ?_
      refine zz_as (y := if ar 0 1 = 0 then -2 else if partB ar n w then nI (pv ar n w) else -1) (hq.symm) ?_
      exact W.iret hx hb hr (fun t ht hW => ⟨rfl, ht⟩) (fun q h => absurd h List.not_mem_nil) d_M_part_20
  · skip
    have z : ar 0 1 = 0 := (zn_inj (by omega) (by decide)).mp h4
    have hq : (if ar 0 1 = 0 then -2 else if partB ar n w then nI (pv ar n w) else -1) = (-2 : Int32) := by rw [if_pos z]
    refine lv_bipush (v := (-2)) hx hb d_M_part_7 rfl ?_
    refine zz_as (y := if ar 0 1 = 0 then -2 else if partB ar n w then nI (pv ar n w) else -1) (hq.symm) ?_
    exact W.iret hx hb hr (fun t ht hW => ⟨rfl, ht⟩) (fun q h => absurd h List.not_mem_nil) d_M_part_9

theorem d_M_change_0 : decode c_M_change 0 = .ok (.aload_n 0, 1) := by decide +kernel
theorem d_M_change_1 : decode c_M_change 1 = .ok (.iload_n 1, 1) := by decide +kernel
theorem d_M_change_2 : decode c_M_change 2 = .ok (.iload_n 2, 1) := by decide +kernel
theorem d_M_change_3 : decode c_M_change 3 = .ok (.invokevirtual 201, 3) := by decide +kernel
theorem d_M_change_6 : decode c_M_change 6 = .ok (.ifCond .eq 25, 3) := by decide +kernel
theorem d_M_change_9 : decode c_M_change 9 = .ok (.iload_n 3, 1) := by decide +kernel
theorem d_M_change_10 : decode c_M_change 10 = .ok (.ifCond .lt 21, 3) := by decide +kernel
theorem d_M_change_13 : decode c_M_change 13 = .ok (.iload_n 3, 1) := by decide +kernel
theorem d_M_change_14 : decode c_M_change 14 = .ok (.iload_n 2, 1) := by decide +kernel
theorem d_M_change_15 : decode c_M_change 15 = .ok (.iconst 2, 1) := by decide +kernel
theorem d_M_change_16 : decode c_M_change 16 = .ok (.if_icmp .ge 9, 3) := by decide +kernel
theorem d_M_change_19 : decode c_M_change 19 = .ok (.sipush 10007, 3) := by decide +kernel
theorem d_M_change_22 : decode c_M_change 22 = .ok (.goto 6, 3) := by decide +kernel
theorem d_M_change_25 : decode c_M_change 25 = .ok (.sipush 5003, 3) := by decide +kernel
theorem d_M_change_28 : decode c_M_change 28 = .ok (.if_icmp .lt 5, 3) := by decide +kernel
theorem d_M_change_31 : decode c_M_change 31 = .ok (.iconst 0, 1) := by decide +kernel
theorem d_M_change_32 : decode c_M_change 32 = .ok (.ireturn, 1) := by decide +kernel
theorem d_M_change_33 : decode c_M_change 33 = .ok (.iload_n 2, 1) := by decide +kernel
theorem d_M_change_34 : decode c_M_change 34 = .ok (.iconst 2, 1) := by decide +kernel
theorem d_M_change_35 : decode c_M_change 35 = .ok (.if_icmp .ge 14, 3) := by decide +kernel
theorem d_M_change_38 : decode c_M_change 38 = .ok (.aload_n 0, 1) := by decide +kernel
theorem d_M_change_39 : decode c_M_change 39 = .ok (.getfield 49, 3) := by decide +kernel
theorem d_M_change_42 : decode c_M_change 42 = .ok (.iconst 2, 1) := by decide +kernel
theorem d_M_change_43 : decode c_M_change 43 = .ok (.iload_n 1, 1) := by decide +kernel
theorem d_M_change_44 : decode c_M_change 44 = .ok (.imul, 1) := by decide +kernel
theorem d_M_change_45 : decode c_M_change 45 = .ok (.iload_n 2, 1) := by decide +kernel
theorem d_M_change_46 : decode c_M_change 46 = .ok (.iadd, 1) := by decide +kernel
theorem d_M_change_47 : decode c_M_change 47 = .ok (.iload_n 3, 1) := by decide +kernel
theorem d_M_change_48 : decode c_M_change 48 = .ok (.iastore, 1) := by decide +kernel
theorem d_M_change_49 : decode c_M_change 49 = .ok (.iload_n 2, 1) := by decide +kernel
theorem d_M_change_50 : decode c_M_change 50 = .ok (.iconst 2, 1) := by decide +kernel
theorem d_M_change_51 : decode c_M_change 51 = .ok (.if_icmp .ne 10, 3) := by decide +kernel
theorem d_M_change_54 : decode c_M_change 54 = .ok (.aload_n 0, 1) := by decide +kernel
theorem d_M_change_55 : decode c_M_change 55 = .ok (.getfield 52, 3) := by decide +kernel
theorem d_M_change_58 : decode c_M_change 58 = .ok (.iload_n 1, 1) := by decide +kernel
theorem d_M_change_59 : decode c_M_change 59 = .ok (.iload_n 3, 1) := by decide +kernel
theorem d_M_change_60 : decode c_M_change 60 = .ok (.iastore, 1) := by decide +kernel
theorem d_M_change_61 : decode c_M_change 61 = .ok (.iload_n 2, 1) := by decide +kernel
theorem d_M_change_62 : decode c_M_change 62 = .ok (.iconst 3, 1) := by decide +kernel
theorem d_M_change_63 : decode c_M_change 63 = .ok (.if_icmp .ne 10, 3) := by decide +kernel
theorem d_M_change_66 : decode c_M_change 66 = .ok (.aload_n 0, 1) := by decide +kernel
theorem d_M_change_67 : decode c_M_change 67 = .ok (.getfield 55, 3) := by decide +kernel
theorem d_M_change_70 : decode c_M_change 70 = .ok (.iload_n 1, 1) := by decide +kernel
theorem d_M_change_71 : decode c_M_change 71 = .ok (.iload_n 3, 1) := by decide +kernel
theorem d_M_change_72 : decode c_M_change 72 = .ok (.iastore, 1) := by decide +kernel
theorem d_M_change_73 : decode c_M_change 73 = .ok (.iconst 1, 1) := by decide +kernel
theorem d_M_change_74 : decode c_M_change 74 = .ok (.ireturn, 1) := by decide +kernel

set_option maxHeartbeats 4000000 in
set_option maxRecDepth 100000 in
/-- change(n, w, v) -/
theorem k_changeM (l : Launch) (D : va_G) (ca : Nat → ClassId) (am : Nat → Nat) (ar : Nat → Nat → Nat) (hI : mI am) (n w v : Nat) (hn : n < 2 ^ 32) (hw : w < 2 ^ 32) (hl2 : ar 0 2 ≤ 8) (hbs : ∀ i, i < 16 → ar 11 i < 10007) (hv : v < 2 ^ 32) : Met l y_M_change (Cond.code y_M_change c_M_change 4 (some .boolean) :: zT) ({ frames := 4, cells := 0, slots := 0, locals := 160 }) (va_Pc [.ref (am 0), .int (nI n), .int (nI w), .int (nI v)] (mw D ca am ar)) (va_Qi (fun r ar1 => r = zb (chgB ar n w v) ∧ ar1 = if chgB ar n w v then chg ar n w v else ar) (mw D ca am) (mA am)) 0 0 (mA am) := by
  refine Met.ofW (cc := c_M_change) (maxL := 4) (ret := (some .boolean)) (by decide) rfl ?_
  intro p e s m args below meth c s₁ B hml hv
  obtain ⟨rfl, hK, hP⟩ := hv
  have hx := B.exec
  have hb := B.bytes
  have hr := B.returns
  have hts0 := atoms_spec (ws := Cond.code y_M_change c_M_change 4 (some .boolean) :: zT) B.pre
  have hts := fun w h => hts0 w (List.mem_cons_of_mem _ h)
  have hown : s.vm.findClass R_M = some m.cls := findClass_of_methodNamed B.named
  have hlocks := B.notSynchronized
  have hD := mI_D hI
  have hS : va_S (mA am) s.heap s.heap [] := va_S.rf
  have hAA : ∀ q, mA am q → mA am q := fun _ h => h
  have hl := lv_entry ([.ref (am 0), .int (nI n), .int (nI w), .int (nI v)]) (n := 4) (Nat.le_of_ble_eq_true rfl)
  rw [lg_entry_eq]
  generalize (lg_sl ([.ref (am 0), .int (nI n), .int (nI w), .int (nI v)]) ++ List.replicate (4 - (lg_sl ([.ref (am 0), .int (nI n), .int (nI w), .int (nI v)])).length) Slot.unset).toArray = ls at hl ⊢
  have hl : lv_has ls 4 [(0, .ref (am 0)), (1, .int (nI n)), (2, .int (nI w)), (3, .int (nI v))] := hl
  skip
  refine lv_aload_n hx hb d_M_change_0 rfl (lv_at hl 0 rfl) ?_
  refine lv_iload_n hx hb d_M_change_1 rfl (lv_at hl 1 rfl) ?_
  refine lv_iload_n hx hb d_M_change_2 rfl (lv_at hl 2 rfl) ?_
  refine zz_cV (index := 201) (n := 2) (As := [.int (nI n), .int (nI w)]) (rest := []) ⟨hx, hb, hml, hown, hts⟩ (k_isPartM l D ca am (ar) n w hn hw hl2 hbs) mk_M_201 mo_M_isPart me_M_M_isPart_M mi_M mc_M_isPart (by decide +kernel) ⟨rfl, rfl⟩ ⟨by decide, by decide⟩ (mm_pre hK hP) rfl hl.1 rfl (Nat.le_of_ble_eq_true rfl) d_M_change_3 ⟨Nat.zero_le _, Nat.zero_le _⟩ ?_
  refine lv_if_eq (tgt := 31) hx hb d_M_change_6 rfl (fun h6 => ?_) (fun h6 => ?_)
  · skip
    have hq : chgB ar n w v = false := by unfold chgB; rw [zb_eq h6, Bool.false_and]
    refine lv_iconst (v := 0) hx hb d_M_change_31 rfl ?_
    exact W.zret hx hb hr (rfl) (fun t ht hW => ⟨⟨_, ar, rfl, ⟨by rw [hq]; rfl, by rw [hq]; rfl⟩, va_K.moved hW.alike hK, by rw [ht]; exact hP⟩, hS.F ht⟩) hS.2.2 d_M_change_32
  · skip
    have y := zb_ne h6
    obtain ⟨hA, hW4⟩ := partB_t y
    refine lv_iload_n hx hb d_M_change_9 rfl (lv_at hl 3 rfl) ?_
    refine lv_if_lt (tgt := 31) hx hb d_M_change_10 rfl (fun h10 => ?_) (fun h10 => ?_)
    · skip
      have hq : chgB ar n w v = false := by unfold chgB; rw [decide_eq_false (show ¬ v < (if w < 2 then 10007 else 5003) by have := (zn_lt0 hv).mp h10; split <;> omega), Bool.and_false]
      refine lv_iconst (v := 0) hx hb d_M_change_31 rfl ?_
      exact W.zret hx hb hr (rfl) (fun t ht hW => ⟨⟨_, ar, rfl, ⟨by rw [hq]; rfl, by rw [hq]; rfl⟩, va_K.moved hW.alike hK, by rw [ht]; exact hP⟩, hS.F ht⟩) hS.2.2 d_M_change_32
    · skip
      refine lv_iload_n hx hb d_M_change_13 rfl (lv_at hl 3 rfl) ?_
      refine lv_iload_n hx hb d_M_change_14 rfl (lv_at hl 2 rfl) ?_
      refine lv_iconst (v := 2) hx hb d_M_change_15 rfl ?_
      refine lv_icmp_ge (tgt := 25) hx hb d_M_change_16 rfl (fun h16 => ?_) (fun h16 => ?_)
      · skip
        have w2 : ¬ w < 2 := by have := (zn_le (b := 2) hw (by decide)).mp h16; omega
        refine lv_sipush (v := 5003) hx hb d_M_change_25 rfl ?_
        refine lv_icmp_lt (tgt := 33) hx hb d_M_change_28 rfl (fun h28 => ?_) (fun h28 => ?_)
        · skip
          have v2 : v < 5003 := by have a := (zn_lt (b := 5003) hv (by decide)).mp h28; have b := mt (zn_lt0 hv).mpr h10; omega
          have hq : chgB ar n w v = true := by unfold chgB; rw [y, if_neg w2, decide_eq_true v2]; rfl
          refine lv_iload_n hx hb d_M_change_33 rfl (lv_at hl 2 rfl) ?_
          refine lv_iconst (v := 2) hx hb d_M_change_34 rfl ?_
          refine lv_icmp_ge (tgt := 49) hx hb d_M_change_35 rfl (fun h35 => ?_) (fun h35 => absurd ((zn_le (b := 2) hw (by decide)).mpr (by omega)) h35)
          refine lv_iload_n hx hb d_M_change_49 rfl (lv_at hl 2 rfl) ?_
          refine lv_iconst (v := 2) hx hb d_M_change_50 rfl ?_
          refine lv_icmp_ne (tgt := 61) hx hb d_M_change_51 rfl (fun h51 => ?_) (fun h51 => ?_)
          · skip
            have w3 : ¬ w = 2 := fun q => h51 (by rw [q]; rfl)
            refine lv_iload_n hx hb d_M_change_61 rfl (lv_at hl 2 rfl) ?_
            refine lv_iconst (v := 3) hx hb d_M_change_62 rfl ?_
            refine lv_icmp_ne (tgt := 73) hx hb d_M_change_63 rfl (fun h63 => absurd (by rw [show w = 3 by omega]; rfl) h63) (fun h63 => ?_)
            refine lv_aload_n hx hb d_M_change_66 rfl (lv_at hl 0 rfl) ?_
            refine mm_get hx hb hts hown hK hP (index := 55) 15 (by decide) mf_M_55 (v := .ref (am 16)) rfl d_M_change_67 ?_
            refine lv_iload_n hx hb d_M_change_70 rfl (lv_at hl 1 rfl) ?_
            refine lv_iload_n hx hb d_M_change_71 rfl (lv_at hl 3 rfl) ?_
            refine mm_ast hx hb hK hP hD hS 15 (by decide) rfl (n) rfl (show n < 8 from by omega) (v) (rfl) d_M_change_72 (fun H locs hP hS => ?_)
            refine lv_iconst (v := 1) hx hb d_M_change_73 rfl ?_
            exact W.zret hx hb hr (rfl) (fun t ht hW => ⟨⟨_, zs ar 16 n v, rfl, ⟨by rw [hq]; rfl, by rw [hq, if_pos rfl]; unfold chg; rw [if_neg w2, if_neg w3]⟩, va_K.moved hW.alike hK, by rw [ht]; exact hP⟩, hS.F ht⟩) hS.2.2 d_M_change_74
          · skip
            have w3 : w = 2 := (zn_inj hw (by decide)).mp h51
            refine lv_aload_n hx hb d_M_change_54 rfl (lv_at hl 0 rfl) ?_
            refine mm_get hx hb hts hown hK hP (index := 52) 14 (by decide) mf_M_52 (v := .ref (am 15)) rfl d_M_change_55 ?_
            refine lv_iload_n hx hb d_M_change_58 rfl (lv_at hl 1 rfl) ?_
            refine lv_iload_n hx hb d_M_change_59 rfl (lv_at hl 3 rfl) ?_
            refine mm_ast hx hb hK hP hD hS 14 (by decide) rfl (n) rfl (show n < 8 from by omega) (v) (rfl) d_M_change_60 (fun H locs hP hS => ?_)
            refine lv_iload_n hx hb d_M_change_61 rfl (lv_at hl 2 rfl) ?_
            refine lv_iconst (v := 3) hx hb d_M_change_62 rfl ?_
            refine lv_icmp_ne (tgt := 73) hx hb d_M_change_63 rfl (fun h63 => ?_) (fun h63 => absurd h63 (fun q => by have := (zn_inj (b := 3) hw (by decide)).mp q; omega))
            refine lv_iconst (v := 1) hx hb d_M_change_73 rfl ?_
            exact W.zret hx hb hr (rfl) (fun t ht hW => ⟨⟨_, zs ar 15 n v, rfl, ⟨by rw [hq]; rfl, by rw [hq, if_pos rfl]; unfold chg; rw [if_neg w2, if_pos w3]⟩, va_K.moved hW.alike hK, by rw [ht]; exact hP⟩, hS.F ht⟩) hS.2.2 d_M_change_74
        · skip
          have v2 : ¬ v < 5003 := by have a := mt (zn_lt (b := 5003) hv (by decide)).mpr h28; omega
          have hq : chgB ar n w v = false := by unfold chgB; rw [if_neg w2, decide_eq_false v2, Bool.and_false]
          refine lv_iconst (v := 0) hx hb d_M_change_31 rfl ?_
          exact W.zret hx hb hr (rfl) (fun t ht hW => ⟨⟨_, ar, rfl, ⟨by rw [hq]; rfl, by rw [hq]; rfl⟩, va_K.moved hW.alike hK, by rw [ht]; exact hP⟩, hS.F ht⟩) hS.2.2 d_M_change_32
      · skip
        have w2 : w < 2 := by have := mt (zn_le (b := 2) hw (by decide)).mpr h16; omega
        refine lv_sipush (v := 10007) hx hb d_M_change_19 rfl ?_
        refine lv_goto (tgt := 28) hx hb d_M_change_22 rfl ?_
        refine lv_icmp_lt (tgt := 33) hx hb d_M_change_28 rfl (fun h28 => ?_) (fun h28 => ?_)
        · skip
          have v2 : v < 10007 := by have a := (zn_lt (b := 10007) hv (by decide)).mp h28; have b := mt (zn_lt0 hv).mpr h10; omega
          have hq : chgB ar n w v = true := by unfold chgB; rw [y, if_pos w2, decide_eq_true v2]; rfl
          refine lv_iload_n hx hb d_M_change_33 rfl (lv_at hl 2 rfl) ?_
          refine lv_iconst (v := 2) hx hb d_M_change_34 rfl ?_
          refine lv_icmp_ge (tgt := 49) hx hb d_M_change_35 rfl (fun h35 => absurd h35 (fun q => by have := (zn_le (b := 2) hw (by decide)).mp q; omega)) (fun h35 => ?_)
          refine lv_aload_n hx hb d_M_change_38 rfl (lv_at hl 0 rfl) ?_
          refine mm_get hx hb hts hown hK hP (index := 49) 13 (by decide) mf_M_49 (v := .ref (am 14)) rfl d_M_change_39 ?_
          refine lv_iconst (v := 2) hx hb d_M_change_42 rfl ?_
          refine lv_iload_n hx hb d_M_change_43 rfl (lv_at hl 1 rfl) ?_
          refine lv_imul hx hb d_M_change_44 ?_
          refine zz_as (y := nI (2 * n)) (pk_mul 2 n) ?_
          refine lv_iload_n hx hb d_M_change_45 rfl (lv_at hl 2 rfl) ?_
          refine lv_iadd hx hb d_M_change_46 ?_
          refine zz_as (y := nI ((2 * n) + w)) (nI_add (2 * n) w) ?_
          refine lv_iload_n hx hb d_M_change_47 rfl (lv_at hl 3 rfl) ?_
          refine mm_ast hx hb hK hP hD hS 13 (by decide) rfl ((2 * n) + w) rfl (show (2 * n) + w < 16 from by omega) (v) (rfl) d_M_change_48 (fun H locs hP hS => ?_)
          refine lv_iload_n hx hb d_M_change_49 rfl (lv_at hl 2 rfl) ?_
          refine lv_iconst (v := 2) hx hb d_M_change_50 rfl ?_
          refine lv_icmp_ne (tgt := 61) hx hb d_M_change_51 rfl (fun h51 => ?_) (fun h51 => absurd h51 (fun q => by have := (zn_inj (b := 2) hw (by decide)).mp q; omega))
          refine lv_iload_n hx hb d_M_change_61 rfl (lv_at hl 2 rfl) ?_
          refine lv_iconst (v := 3) hx hb d_M_change_62 rfl ?_
          refine lv_icmp_ne (tgt := 73) hx hb d_M_change_63 rfl (fun h63 => ?_) (fun h63 => absurd h63 (fun q => by have := (zn_inj (b := 3) hw (by decide)).mp q; omega))
          refine lv_iconst (v := 1) hx hb d_M_change_73 rfl ?_
          exact W.zret hx hb hr (rfl) (fun t ht hW => ⟨⟨_, zs ar 14 ((2 * n) + w) v, rfl, ⟨by rw [hq]; rfl, by rw [hq, if_pos rfl]; unfold chg; rw [if_pos w2]⟩, va_K.moved hW.alike hK, by rw [ht]; exact hP⟩, hS.F ht⟩) hS.2.2 d_M_change_74
        · skip
          have v2 : ¬ v < 10007 := by have a := mt (zn_lt (b := 10007) hv (by decide)).mpr h28; omega
          have hq : chgB ar n w v = false := by unfold chgB; rw [if_pos w2, decide_eq_false v2, Bool.and_false]
          refine lv_iconst (v := 0) hx hb d_M_change_31 rfl ?_
          exact W.zret hx hb hr (rfl) (fun t ht hW => ⟨⟨_, ar, rfl, ⟨by rw [hq]; rfl, by rw [hq]; rfl⟩, va_K.moved hW.alike hK, by rw [ht]; exact hP⟩, hS.F ht⟩) hS.2.2 d_M_change_32

theorem d_M_later_0 : decode c_M_later 0 = .ok (.aload_n 0, 1) := by decide +kernel
theorem d_M_later_1 : decode c_M_later 1 = .ok (.getfield 77, 3) := by decide +kernel
theorem d_M_later_4 : decode c_M_later 4 = .ok (.aload_n 0, 1) := by decide +kernel
theorem d_M_later_5 : decode c_M_later 5 = .ok (.getfield 145, 3) := by decide +kernel
theorem d_M_later_8 : decode c_M_later 8 = .ok (.iload_n 1, 1) := by decide +kernel
theorem d_M_later_9 : decode c_M_later 9 = .ok (.iastore, 1) := by decide +kernel
theorem d_M_later_10 : decode c_M_later 10 = .ok (.aload_n 0, 1) := by decide +kernel
theorem d_M_later_11 : decode c_M_later 11 = .ok (.getfield 83, 3) := by decide +kernel
theorem d_M_later_14 : decode c_M_later 14 = .ok (.iload_n 1, 1) := by decide +kernel
theorem d_M_later_15 : decode c_M_later 15 = .ok (.iload_n 2, 1) := by decide +kernel
theorem d_M_later_16 : decode c_M_later 16 = .ok (.bastore, 1) := by decide +kernel
theorem d_M_later_17 : decode c_M_later 17 = .ok (.aload_n 0, 1) := by decide +kernel
theorem d_M_later_18 : decode c_M_later 18 = .ok (.getfield 80, 3) := by decide +kernel
theorem d_M_later_21 : decode c_M_later 21 = .ok (.iload_n 1, 1) := by decide +kernel
theorem d_M_later_22 : decode c_M_later 22 = .ok (.iload_n 3, 1) := by decide +kernel
theorem d_M_later_23 : decode c_M_later 23 = .ok (.iastore, 1) := by decide +kernel
theorem d_M_later_24 : decode c_M_later 24 = .ok (.aload_n 0, 1) := by decide +kernel
theorem d_M_later_25 : decode c_M_later 25 = .ok (.dup, 1) := by decide +kernel
theorem d_M_later_26 : decode c_M_later 26 = .ok (.getfield 145, 3) := by decide +kernel
theorem d_M_later_29 : decode c_M_later 29 = .ok (.iconst 1, 1) := by decide +kernel
theorem d_M_later_30 : decode c_M_later 30 = .ok (.iadd, 1) := by decide +kernel
theorem d_M_later_31 : decode c_M_later 31 = .ok (.putfield 145, 3) := by decide +kernel
theorem d_M_later_34 : decode c_M_later 34 = .ok (.return_, 1) := by decide +kernel

set_option maxHeartbeats 4000000 in
set_option maxRecDepth 100000 in
/-- later(k, b, c) -/
theorem k_laterM (l : Launch) (D : va_G) (ca : Nat → ClassId) (am : Nat → Nat) (ar : Nat → Nat → Nat) (hI : mI am) (k b c0 : Nat) (hk : k < 15) (hb2 : b < 2) (ht : ar 0 6 < 15) : Met l y_M_later (Cond.code y_M_later c_M_later 4 none :: zT) ({ frames := 1, cells := 0, slots := 0, locals := 40 }) (va_Pc [.ref (am 0), .int (nI k), .int (nI b), .int (nI c0)] (mw D ca am ar)) (va_Qv (fun ar1 => ar1 = lat ar k b c0) (mw D ca am) (mA am)) 0 0 (mA am) := by
  refine Met.ofW (cc := c_M_later) (maxL := 4) (ret := none) (by decide) rfl ?_
  intro p e s m args below meth c s₁ B hml hv
  obtain ⟨rfl, hK, hP⟩ := hv
  have hx := B.exec
  have hb := B.bytes
  have hr := B.returns
  have hts0 := atoms_spec (ws := Cond.code y_M_later c_M_later 4 none :: zT) B.pre
  have hts := fun w h => hts0 w (List.mem_cons_of_mem _ h)
  have hown : s.vm.findClass R_M = some m.cls := findClass_of_methodNamed B.named
  have hlocks := B.notSynchronized
  have hD := mI_D hI
  have hS : va_S (mA am) s.heap s.heap [] := va_S.rf
  have hAA : ∀ q, mA am q → mA am q := fun _ h => h
  have hl := lv_entry ([.ref (am 0), .int (nI k), .int (nI b), .int (nI c0)]) (n := 4) (Nat.le_of_ble_eq_true rfl)
  rw [lg_entry_eq]
  generalize (lg_sl ([.ref (am 0), .int (nI k), .int (nI b), .int (nI c0)]) ++ List.replicate (4 - (lg_sl ([.ref (am 0), .int (nI k), .int (nI b), .int (nI c0)])).length) Slot.unset).toArray = ls at hl ⊢
  have hl : lv_has ls 4 [(0, .ref (am 0)), (1, .int (nI k)), (2, .int (nI b)), (3, .int (nI c0))] := hl
  skip
  refine lv_aload_n hx hb d_M_later_0 rfl (lv_at hl 0 rfl) ?_
  refine mm_get hx hb hts hown hK hP (index := 77) 22 (by decide) mf_M_77 (v := .ref (am 23)) rfl d_M_later_1 ?_
  refine lv_aload_n hx hb d_M_later_4 rfl (lv_at hl 0 rfl) ?_
  refine mm_get hx hb hts hown hK hP (index := 145) 33 (by decide) mf_M_145 (v := .int (nI (ar 0 6))) rfl d_M_later_5 ?_
  refine lv_iload_n hx hb d_M_later_8 rfl (lv_at hl 1 rfl) ?_
  refine mm_ast hx hb hK hP hD hS 22 (by decide) rfl (ar 0 6) rfl (show ar 0 6 < 15 from by omega) (k) (rfl) d_M_later_9 (fun H locs hP hS => ?_)
  refine lv_aload_n hx hb d_M_later_10 rfl (lv_at hl 0 rfl) ?_
  refine mm_get hx hb hts hown hK hP (index := 83) 24 (by decide) mf_M_83 (v := .ref (am 25)) rfl d_M_later_11 ?_
  refine lv_iload_n hx hb d_M_later_14 rfl (lv_at hl 1 rfl) ?_
  refine lv_iload_n hx hb d_M_later_15 rfl (lv_at hl 2 rfl) ?_
  refine mm_zast hx hb hK hP hD hS 24 (by decide) rfl (k) rfl (show k < 15 from by omega) (b) (rfl) (hb2) d_M_later_16 (fun H locs hP hS => ?_)
  refine lv_aload_n hx hb d_M_later_17 rfl (lv_at hl 0 rfl) ?_
  refine mm_get hx hb hts hown hK hP (index := 80) 23 (by decide) mf_M_80 (v := .ref (am 24)) rfl d_M_later_18 ?_
  refine lv_iload_n hx hb d_M_later_21 rfl (lv_at hl 1 rfl) ?_
  refine lv_iload_n hx hb d_M_later_22 rfl (lv_at hl 3 rfl) ?_
  refine mm_ast hx hb hK hP hD hS 23 (by decide) rfl (k) rfl (show k < 15 from by omega) (c0) (rfl) d_M_later_23 (fun H locs hP hS => ?_)
  refine lv_aload_n hx hb d_M_later_24 rfl (lv_at hl 0 rfl) ?_
  refine lv_dup hx hb d_M_later_25 rfl ?_
  refine mm_get hx hb hts hown hK hP (index := 145) 33 (by decide) mf_M_145 (v := .int (nI (ar 0 6))) rfl d_M_later_26 ?_
  refine lv_iconst (v := 1) hx hb d_M_later_29 rfl ?_
  refine lv_iadd hx hb d_M_later_30 ?_
  refine zz_as (y := nI ((ar 0 6) + 1)) (nI_add (ar 0 6) 1) ?_
  refine mm_put hx hb hts hown hK hP hD hS (index := 145) 6 (by decide) mf_M_145 ((ar 0 6) + 1) (rfl) rfl rfl d_M_later_31 (fun H locs hP hS => ?_)
  exact W.vret hx hb hr (fun t ht hW => ⟨⟨zs (zs (zs (zs ar 23 (ar 0 6) k) 25 k b) 24 k c0) 0 6 ((ar 0 6) + 1), rfl, rfl, va_K.moved hW.alike hK, by rw [ht]; exact hP⟩, hS.F ht⟩) hS.2.2 d_M_later_34

theorem d_M_respondLeaf_0 : decode c_M_respondLeaf 0 = .ok (.aload_n 0, 1) := by decide +kernel
theorem d_M_respondLeaf_1 : decode c_M_respondLeaf 1 = .ok (.getfield 52, 3) := by decide +kernel
theorem d_M_respondLeaf_4 : decode c_M_respondLeaf 4 = .ok (.iload_n 1, 1) := by decide +kernel
theorem d_M_respondLeaf_5 : decode c_M_respondLeaf 5 = .ok (.iload_n 2, 1) := by decide +kernel
theorem d_M_respondLeaf_6 : decode c_M_respondLeaf 6 = .ok (.iastore, 1) := by decide +kernel
theorem d_M_respondLeaf_7 : decode c_M_respondLeaf 7 = .ok (.aload_n 0, 1) := by decide +kernel
theorem d_M_respondLeaf_8 : decode c_M_respondLeaf 8 = .ok (.getfield 55, 3) := by decide +kernel
theorem d_M_respondLeaf_11 : decode c_M_respondLeaf 11 = .ok (.iload_n 1, 1) := by decide +kernel
theorem d_M_respondLeaf_12 : decode c_M_respondLeaf 12 = .ok (.aload_n 0, 1) := by decide +kernel
theorem d_M_respondLeaf_13 : decode c_M_respondLeaf 13 = .ok (.getfield 67, 3) := by decide +kernel
theorem d_M_respondLeaf_16 : decode c_M_respondLeaf 16 = .ok (.iload_n 1, 1) := by decide +kernel
theorem d_M_respondLeaf_17 : decode c_M_respondLeaf 17 = .ok (.iaload, 1) := by decide +kernel
theorem d_M_respondLeaf_18 : decode c_M_respondLeaf 18 = .ok (.iload_n 2, 1) := by decide +kernel
theorem d_M_respondLeaf_19 : decode c_M_respondLeaf 19 = .ok (.aload_n 0, 1) := by decide +kernel
theorem d_M_respondLeaf_20 : decode c_M_respondLeaf 20 = .ok (.getfield 46, 3) := by decide +kernel
theorem d_M_respondLeaf_23 : decode c_M_respondLeaf 23 = .ok (.iload_n 1, 1) := by decide +kernel
theorem d_M_respondLeaf_24 : decode c_M_respondLeaf 24 = .ok (.iaload, 1) := by decide +kernel
theorem d_M_respondLeaf_25 : decode c_M_respondLeaf 25 = .ok (.sipush 5003, 3) := by decide +kernel
theorem d_M_respondLeaf_28 : decode c_M_respondLeaf 28 = .ok (.invokestatic 92, 3) := by decide +kernel
theorem d_M_respondLeaf_31 : decode c_M_respondLeaf 31 = .ok (.iadd, 1) := by decide +kernel
theorem d_M_respondLeaf_32 : decode c_M_respondLeaf 32 = .ok (.sipush 5003, 3) := by decide +kernel
theorem d_M_respondLeaf_35 : decode c_M_respondLeaf 35 = .ok (.irem, 1) := by decide +kernel
theorem d_M_respondLeaf_36 : decode c_M_respondLeaf 36 = .ok (.iastore, 1) := by decide +kernel
theorem d_M_respondLeaf_37 : decode c_M_respondLeaf 37 = .ok (.return_, 1) := by decide +kernel

set_option maxHeartbeats 4000000 in
set_option maxRecDepth 100000 in
/-- respondLeaf(n, c) -/
theorem k_respondLeafM (l : Launch) (D : va_G) (ca : Nat → ClassId) (am : Nat → Nat) (ar : Nat → Nat → Nat) (hI : mI am) (n c0 : Nat) (hn : n < 8) (hc0 : c0 < 5003) (hw : ar 13 n < 5003) (hno : ar 20 n < 5003) : Met l y_M_respondLeaf (Cond.code y_M_respondLeaf c_M_respondLeaf 3 none :: zT) ({ frames := 2, cells := 0, slots := 0, locals := 80 }) (va_Pc [.ref (am 0), .int (nI n), .int (nI c0)] (mw D ca am ar)) (va_Qv (fun ar1 => ar1 = rspL ar n c0) (mw D ca am) (mA am)) 0 0 (mA am) := by
  refine Met.ofW (cc := c_M_respondLeaf) (maxL := 3) (ret := none) (by decide) rfl ?_
  intro p e s m args below meth c s₁ B hml hv
  obtain ⟨rfl, hK, hP⟩ := hv
  have hx := B.exec
  have hb := B.bytes
  have hr := B.returns
  have hts0 := atoms_spec (ws := Cond.code y_M_respondLeaf c_M_respondLeaf 3 none :: zT) B.pre
  have hts := fun w h => hts0 w (List.mem_cons_of_mem _ h)
  have hown : s.vm.findClass R_M = some m.cls := findClass_of_methodNamed B.named
  have hlocks := B.notSynchronized
  have hD := mI_D hI
  have hS : va_S (mA am) s.heap s.heap [] := va_S.rf
  have hAA : ∀ q, mA am q → mA am q := fun _ h => h
  have hl := lv_entry ([.ref (am 0), .int (nI n), .int (nI c0)]) (n := 3) (Nat.le_of_ble_eq_true rfl)
  rw [lg_entry_eq]
  generalize (lg_sl ([.ref (am 0), .int (nI n), .int (nI c0)]) ++ List.replicate (3 - (lg_sl ([.ref (am 0), .int (nI n), .int (nI c0)])).length) Slot.unset).toArray = ls at hl ⊢
  have hl : lv_has ls 3 [(0, .ref (am 0)), (1, .int (nI n)), (2, .int (nI c0))] := hl
  skip
  refine lv_aload_n hx hb d_M_respondLeaf_0 rfl (lv_at hl 0 rfl) ?_
  refine mm_get hx hb hts hown hK hP (index := 52) 14 (by decide) mf_M_52 (v := .ref (am 15)) rfl d_M_respondLeaf_1 ?_
  refine lv_iload_n hx hb d_M_respondLeaf_4 rfl (lv_at hl 1 rfl) ?_
  refine lv_iload_n hx hb d_M_respondLeaf_5 rfl (lv_at hl 2 rfl) ?_
  refine mm_ast hx hb hK hP hD hS 14 (by decide) rfl (n) rfl (show n < 8 from by omega) (c0) (rfl) d_M_respondLeaf_6 (fun H locs hP hS => ?_)
  refine lv_aload_n hx hb d_M_respondLeaf_7 rfl (lv_at hl 0 rfl) ?_
  refine mm_get hx hb hts hown hK hP (index := 55) 15 (by decide) mf_M_55 (v := .ref (am 16)) rfl d_M_respondLeaf_8 ?_
  refine lv_iload_n hx hb d_M_respondLeaf_11 rfl (lv_at hl 1 rfl) ?_
  refine lv_aload_n hx hb d_M_respondLeaf_12 rfl (lv_at hl 0 rfl) ?_
  refine mm_get hx hb hts hown hK hP (index := 67) 19 (by decide) mf_M_67 (v := .ref (am 20)) rfl d_M_respondLeaf_13 ?_
  refine lv_iload_n hx hb d_M_respondLeaf_16 rfl (lv_at hl 1 rfl) ?_
  refine mm_ald hx hb hK hP 19 (by decide) rfl (n) rfl (show n < 8 from by omega) (ar 20 n) (rfl) d_M_respondLeaf_17 ?_
  refine lv_iload_n hx hb d_M_respondLeaf_18 rfl (lv_at hl 2 rfl) ?_
  refine lv_aload_n hx hb d_M_respondLeaf_19 rfl (lv_at hl 0 rfl) ?_
  refine mm_get hx hb hts hown hK hP (index := 46) 12 (by decide) mf_M_46 (v := .ref (am 13)) rfl d_M_respondLeaf_20 ?_
  refine lv_iload_n hx hb d_M_respondLeaf_23 rfl (lv_at hl 1 rfl) ?_
  refine mm_ald hx hb hK hP 12 (by decide) rfl (n) rfl (show n < 8 from by omega) (ar 13 n) (rfl) d_M_respondLeaf_24 ?_
  refine lv_sipush (v := 5003) hx hb d_M_respondLeaf_25 rfl ?_
  refine zz_cS (index := 92) (n := 3) (As := [.int (nI c0), .int (nI (ar 13 n)), .int 5003]) (rest := [.int (nI (ar 20 n)), .int (nI n), .ref (am 16)]) ⟨hx, hb, hml, hown, hts⟩ (k_times l c0 (ar 13 n) 5003 (by omega) (by omega) (by decide) (by decide)) mk_M_92 ms_M_times mi_M mc_M_times (by decide +kernel) ⟨rfl, rfl⟩ ⟨by decide, by decide⟩ preEq rfl hl.1 rfl (Nat.le_of_ble_eq_true rfl) d_M_respondLeaf_28 ⟨Nat.zero_le _, Nat.zero_le _⟩ ?_
  refine lv_iadd hx hb d_M_respondLeaf_31 ?_
  refine zz_as (y := nI ((ar 20 n) + (c0 * ar 13 n % 5003))) (nI_add (ar 20 n) (c0 * ar 13 n % 5003)) ?_
  refine lv_sipush (v := 5003) hx hb d_M_respondLeaf_32 rfl ?_
  refine lv_irem hx hb d_M_respondLeaf_35 (by decide) ?_
  refine zz_as (y := nI (((ar 20 n) + (c0 * ar 13 n % 5003)) % 5003)) (pk_rem (d := 5003) (by have := Nat.mod_lt (c0 * ar 13 n) (show 0 < 5003 by decide); omega) (by decide) (by decide)) ?_
  refine mm_ast hx hb hK hP hD hS 15 (by decide) rfl (n) rfl (show n < 8 from by omega) (((ar 20 n) + (c0 * ar 13 n % 5003)) % 5003) (rfl) d_M_respondLeaf_36 (fun H locs hP hS => ?_)
  exact W.vret hx hb hr (fun t ht hW => ⟨⟨zs (zs ar 15 n c0) 16 n (((ar 20 n) + (c0 * ar 13 n % 5003)) % 5003), rfl, rfl, va_K.moved hW.alike hK, by rw [ht]; exact hP⟩, hS.F ht⟩) hS.2.2 d_M_respondLeaf_37
end
section
/-! the model's know, known, commitLeaf, commitOr -/
def kv (ar : Nat → Nat → Nat) (h : Nat → Nat) (k : Nat) : Nat := if ar 7 k = 0 then (if ar 13 (ar 10 k) < 2147483648 then 1 else 0) else if ar 7 k = 1 then (if h (ar 8 k) = 1 ∧ h (ar 9 k) = 1 then 1 else 0) else (if h (ar 8 k) = 1 ∨ h (ar 9 k) = 1 then 1 else 0)
def kOK (ar : Nat → Nat → Nat) (h : Nat → Nat) (N : Nat) : Prop := ∀ k, k < N → h k = kv ar h k
/-- the accepted tree's tables: kinds, children before their parents, leaf numbers -/
def tT (ar : Nat → Nat → Nat) : Prop := ar 0 1 ≤ 15 ∧ ar 0 2 ≤ 8 ∧ ∀ k, k < ar 0 1 → ar 7 k ≤ 2 ∧ (ar 7 k = 0 → ar 10 k < ar 0 2) ∧ (ar 7 k ≠ 0 → ar 8 k < k ∧ ar 9 k < k)
theorem kv_cg {ar : Nat → Nat → Nat} {h g : Nat → Nat} {k : Nat} (hc : ar 7 k ≠ 0 → ar 8 k < k ∧ ar 9 k < k) (hg : ∀ i, i < k → g i = h i) : kv ar g k = kv ar h k := by
  unfold kv
  by_cases h0 : ar 7 k = 0
  · rw [if_pos h0, if_pos h0]
  · rw [hg _ (hc h0).1, hg _ (hc h0).2]
theorem kOK_s {ar : Nat → Nat → Nat} {h : Nat → Nat} {k v : Nat} (hk : kOK ar h k) (hT : tT ar) (hN : k < ar 0 1) (hv : v = kv ar h k) : kOK ar (va_up h k v) (k + 1) := by
  intro i hi
  have hcg : kv ar (va_up h k v) i = kv ar h i := kv_cg (fun z => (hT.2.2 i (by omega)).2.2 z) (fun q hq => va_up_ne _ _ (by omega))
  rw [hcg]
  by_cases e : i = k
  · subst e; rw [va_up_self, hv]
  · rw [va_up_ne _ _ e, hk i (by omega)]
theorem zs_up (ar : Nat → Nat → Nat) (j : Nat) (h : Nat → Nat) (k v : Nat) : zs (va_up ar j h) j k v = va_up ar j (va_up h k v) := by
  unfold zs; rw [bx_uu, va_up_self]
theorem b_z {b : Nat} (hb : b < 2) (h : nI b = 0) : b = 0 := (zn_inj (by omega) (by decide)).mp h
theorem b_o {b : Nat} (hb : b < 2) (h : ¬ nI b = 0) : b = 1 := by
  rcases (show b = 0 ∨ b = 1 by omega) with rfl | rfl
  · exact absurd rfl h
  · rfl
theorem up_lt {h : Nat → Nat} {k v n : Nat} (hh : ∀ i, i < k → h i < n) (hv : v < n) : ∀ i, i < k + 1 → va_up h k v i < n := by
  intro i hi
  by_cases e : i = k
  · subst e; rw [va_up_self]; exact hv
  · rw [va_up_ne _ _ e]; exact hh i (by omega)

theorem d_M_know_0 : decode c_M_know 0 = .ok (.iconst 0, 1) := by decide +kernel
theorem d_M_know_1 : decode c_M_know 1 = .ok (.istore_n 1, 1) := by decide +kernel
theorem d_M_know_2 : decode c_M_know 2 = .ok (.iload_n 1, 1) := by decide +kernel
theorem d_M_know_3 : decode c_M_know 3 = .ok (.aload_n 0, 1) := by decide +kernel
theorem d_M_know_4 : decode c_M_know 4 = .ok (.getfield 122, 3) := by decide +kernel
theorem d_M_know_7 : decode c_M_know 7 = .ok (.if_icmp .ge 141, 3) := by decide +kernel
theorem d_M_know_10 : decode c_M_know 10 = .ok (.aload_n 0, 1) := by decide +kernel
theorem d_M_know_11 : decode c_M_know 11 = .ok (.getfield 28, 3) := by decide +kernel
theorem d_M_know_14 : decode c_M_know 14 = .ok (.iload_n 1, 1) := by decide +kernel
theorem d_M_know_15 : decode c_M_know 15 = .ok (.iaload, 1) := by decide +kernel
theorem d_M_know_16 : decode c_M_know 16 = .ok (.ifCond .ne 28, 3) := by decide +kernel
theorem d_M_know_19 : decode c_M_know 19 = .ok (.aload_n 0, 1) := by decide +kernel
theorem d_M_know_20 : decode c_M_know 20 = .ok (.getfield 89, 3) := by decide +kernel
theorem d_M_know_23 : decode c_M_know 23 = .ok (.iload_n 1, 1) := by decide +kernel
theorem d_M_know_24 : decode c_M_know 24 = .ok (.aload_n 0, 1) := by decide +kernel
theorem d_M_know_25 : decode c_M_know 25 = .ok (.getfield 46, 3) := by decide +kernel
theorem d_M_know_28 : decode c_M_know 28 = .ok (.aload_n 0, 1) := by decide +kernel
theorem d_M_know_29 : decode c_M_know 29 = .ok (.getfield 37, 3) := by decide +kernel
theorem d_M_know_32 : decode c_M_know 32 = .ok (.iload_n 1, 1) := by decide +kernel
theorem d_M_know_33 : decode c_M_know 33 = .ok (.iaload, 1) := by decide +kernel
theorem d_M_know_34 : decode c_M_know 34 = .ok (.iaload, 1) := by decide +kernel
theorem d_M_know_35 : decode c_M_know 35 = .ok (.ifCond .lt 7, 3) := by decide +kernel
theorem d_M_know_38 : decode c_M_know 38 = .ok (.iconst 1, 1) := by decide +kernel
theorem d_M_know_39 : decode c_M_know 39 = .ok (.goto 4, 3) := by decide +kernel
theorem d_M_know_42 : decode c_M_know 42 = .ok (.iconst 0, 1) := by decide +kernel
theorem d_M_know_43 : decode c_M_know 43 = .ok (.bastore, 1) := by decide +kernel
theorem d_M_know_44 : decode c_M_know 44 = .ok (.aload_n 0, 1) := by decide +kernel
theorem d_M_know_45 : decode c_M_know 45 = .ok (.getfield 28, 3) := by decide +kernel
theorem d_M_know_48 : decode c_M_know 48 = .ok (.iload_n 1, 1) := by decide +kernel
theorem d_M_know_49 : decode c_M_know 49 = .ok (.iaload, 1) := by decide +kernel
theorem d_M_know_50 : decode c_M_know 50 = .ok (.iconst 1, 1) := by decide +kernel
theorem d_M_know_51 : decode c_M_know 51 = .ok (.if_icmp .ne 42, 3) := by decide +kernel
theorem d_M_know_54 : decode c_M_know 54 = .ok (.aload_n 0, 1) := by decide +kernel
theorem d_M_know_55 : decode c_M_know 55 = .ok (.getfield 89, 3) := by decide +kernel
theorem d_M_know_58 : decode c_M_know 58 = .ok (.iload_n 1, 1) := by decide +kernel
theorem d_M_know_59 : decode c_M_know 59 = .ok (.aload_n 0, 1) := by decide +kernel
theorem d_M_know_60 : decode c_M_know 60 = .ok (.getfield 89, 3) := by decide +kernel
theorem d_M_know_63 : decode c_M_know 63 = .ok (.aload_n 0, 1) := by decide +kernel
theorem d_M_know_64 : decode c_M_know 64 = .ok (.getfield 31, 3) := by decide +kernel
theorem d_M_know_67 : decode c_M_know 67 = .ok (.iload_n 1, 1) := by decide +kernel
theorem d_M_know_68 : decode c_M_know 68 = .ok (.iaload, 1) := by decide +kernel
theorem d_M_know_69 : decode c_M_know 69 = .ok (.baload, 1) := by decide +kernel
theorem d_M_know_70 : decode c_M_know 70 = .ok (.ifCond .eq 21, 3) := by decide +kernel
theorem d_M_know_73 : decode c_M_know 73 = .ok (.aload_n 0, 1) := by decide +kernel
theorem d_M_know_74 : decode c_M_know 74 = .ok (.getfield 89, 3) := by decide +kernel
theorem d_M_know_77 : decode c_M_know 77 = .ok (.aload_n 0, 1) := by decide +kernel
theorem d_M_know_78 : decode c_M_know 78 = .ok (.getfield 34, 3) := by decide +kernel
theorem d_M_know_81 : decode c_M_know 81 = .ok (.iload_n 1, 1) := by decide +kernel
theorem d_M_know_82 : decode c_M_know 82 = .ok (.iaload, 1) := by decide +kernel
theorem d_M_know_83 : decode c_M_know 83 = .ok (.baload, 1) := by decide +kernel
theorem d_M_know_84 : decode c_M_know 84 = .ok (.ifCond .eq 7, 3) := by decide +kernel
theorem d_M_know_87 : decode c_M_know 87 = .ok (.iconst 1, 1) := by decide +kernel
theorem d_M_know_88 : decode c_M_know 88 = .ok (.goto 4, 3) := by decide +kernel
theorem d_M_know_91 : decode c_M_know 91 = .ok (.iconst 0, 1) := by decide +kernel
theorem d_M_know_92 : decode c_M_know 92 = .ok (.bastore, 1) := by decide +kernel
theorem d_M_know_93 : decode c_M_know 93 = .ok (.aload_n 0, 1) := by decide +kernel
theorem d_M_know_94 : decode c_M_know 94 = .ok (.getfield 28, 3) := by decide +kernel
theorem d_M_know_97 : decode c_M_know 97 = .ok (.iload_n 1, 1) := by decide +kernel
theorem d_M_know_98 : decode c_M_know 98 = .ok (.iaload, 1) := by decide +kernel
theorem d_M_know_99 : decode c_M_know 99 = .ok (.iconst 2, 1) := by decide +kernel
theorem d_M_know_100 : decode c_M_know 100 = .ok (.if_icmp .ne 42, 3) := by decide +kernel
theorem d_M_know_103 : decode c_M_know 103 = .ok (.aload_n 0, 1) := by decide +kernel
theorem d_M_know_104 : decode c_M_know 104 = .ok (.getfield 89, 3) := by decide +kernel
theorem d_M_know_107 : decode c_M_know 107 = .ok (.iload_n 1, 1) := by decide +kernel
theorem d_M_know_108 : decode c_M_know 108 = .ok (.aload_n 0, 1) := by decide +kernel
theorem d_M_know_109 : decode c_M_know 109 = .ok (.getfield 89, 3) := by decide +kernel
theorem d_M_know_112 : decode c_M_know 112 = .ok (.aload_n 0, 1) := by decide +kernel
theorem d_M_know_113 : decode c_M_know 113 = .ok (.getfield 31, 3) := by decide +kernel
theorem d_M_know_116 : decode c_M_know 116 = .ok (.iload_n 1, 1) := by decide +kernel
theorem d_M_know_117 : decode c_M_know 117 = .ok (.iaload, 1) := by decide +kernel
theorem d_M_know_118 : decode c_M_know 118 = .ok (.baload, 1) := by decide +kernel
theorem d_M_know_119 : decode c_M_know 119 = .ok (.ifCond .ne 17, 3) := by decide +kernel
theorem d_M_know_122 : decode c_M_know 122 = .ok (.aload_n 0, 1) := by decide +kernel
theorem d_M_know_123 : decode c_M_know 123 = .ok (.getfield 89, 3) := by decide +kernel
theorem d_M_know_126 : decode c_M_know 126 = .ok (.aload_n 0, 1) := by decide +kernel
theorem d_M_know_127 : decode c_M_know 127 = .ok (.getfield 34, 3) := by decide +kernel
theorem d_M_know_130 : decode c_M_know 130 = .ok (.iload_n 1, 1) := by decide +kernel
theorem d_M_know_131 : decode c_M_know 131 = .ok (.iaload, 1) := by decide +kernel
theorem d_M_know_132 : decode c_M_know 132 = .ok (.baload, 1) := by decide +kernel
theorem d_M_know_133 : decode c_M_know 133 = .ok (.ifCond .eq 7, 3) := by decide +kernel
theorem d_M_know_136 : decode c_M_know 136 = .ok (.iconst 1, 1) := by decide +kernel
theorem d_M_know_137 : decode c_M_know 137 = .ok (.goto 4, 3) := by decide +kernel
theorem d_M_know_140 : decode c_M_know 140 = .ok (.iconst 0, 1) := by decide +kernel
theorem d_M_know_141 : decode c_M_know 141 = .ok (.bastore, 1) := by decide +kernel
theorem d_M_know_142 : decode c_M_know 142 = .ok (.iinc 1 1, 3) := by decide +kernel
theorem d_M_know_145 : decode c_M_know 145 = .ok (.goto (-143), 3) := by decide +kernel
theorem d_M_know_148 : decode c_M_know 148 = .ok (.return_, 1) := by decide +kernel

section MK
variable {p : Program} {l : Launch} {e : Env} {R : Room} {s : State} {m : MethodId} {args : Array Value} {below : List Frame} {meth : Method} {c : Code} {H0 : Heap} {cells slots : Nat} {Q : State → Prop} {A : Nat → Prop} {D : va_G} {ca : Nat → ClassId} {am : Nat → Nat} {ar : Nat → Nat → Nat}
set_option maxHeartbeats 4000000 in
set_option maxRecDepth 100000 in
theorem know_loop (hx : p.tables.exec = Jvm.exec) (hb : c.code = c_M_know) (hml : c.maxLocals = 2) (hown : s.vm.findClass R_M = some m.cls) (hts : ∀ w ∈ zT, w.before args s = true) (hK : va_K D zC (zty ca) s) (hD : zD A 28 am) (hT : tT ar) (hw : ∀ i, i < 8 → ar 13 i < 2 ^ 32) (kk : ∀ (h : Nat → Nat) (H : Heap) (locs : List Loc) (ls : Array Slot), kOK ar h (ar 0 1) → (∀ k, k < ar 0 1 → h k < 2) → va_P D zC (zl 28 am (mct ca am (va_up ar 27 h))) H → va_S A H0 H locs → W p l e R s m args below meth c H locs cells slots Q (F0 m 148 ls [])) : ∀ (j k : Nat), k + j = ar 0 1 → ∀ (h : Nat → Nat) (H : Heap) (locs : List Loc) (ls : Array Slot), kOK ar h k → (∀ i, i < k → h i < 2) → va_P D zC (zl 28 am (mct ca am (va_up ar 27 h))) H → va_S A H0 H locs → lv_has ls 2 [(1, .int (nI k)), (0, .ref (am 0))] → W p l e R s m args below meth c H locs cells slots Q (F0 m 2 ls []) := by
  have hs1 := hT.1
  have hl2 := hT.2.1
  intro j
  induction j with
  | zero =>
    intro k hk h H locs ls hk0 hh hP hS hl
    obtain rfl : k = ar 0 1 := by omega
    refine lv_iload_n hx hb d_M_know_2 rfl (lv_at hl 0 rfl) ?_
    refine lv_aload_n hx hb d_M_know_3 rfl (lv_at hl 1 rfl) ?_
    refine mm_get hx hb hts hown hK hP (index := 122) 28 (by decide) mf_M_122 (v := .int (nI (ar 0 1))) rfl d_M_know_4 ?_
    refine lv_icmp_ge (tgt := 148) hx hb d_M_know_7 rfl (fun h7 => ?_) (fun h7 => absurd (Int32.le_refl _) h7)
    exact kk h H locs ls hk0 hh hP hS
  | succ j ih =>
    intro k hk h H locs ls hk0 hh hP hS hl
    have hN : k < ar 0 1 := by omega
    obtain ⟨hkd, hlf, hch⟩ := hT.2.2 k hN
    rcases (show ar 7 k = 0 ∨ ar 7 k = 1 ∨ ar 7 k = 2 by omega) with c0 | c0 | c0
    · skip
      have hlf := hlf c0
      refine lv_iload_n hx hb d_M_know_2 rfl (lv_at hl 0 rfl) ?_
      refine lv_aload_n hx hb d_M_know_3 rfl (lv_at hl 1 rfl) ?_
      refine mm_get hx hb hts hown hK hP (index := 122) 28 (by decide) mf_M_122 (v := .int (nI (ar 0 1))) rfl d_M_know_4 ?_
      refine lv_icmp_ge (tgt := 148) hx hb d_M_know_7 rfl (fun h7 => absurd h7 (nI_ge hN (by omega))) (fun h7 => ?_)
      refine lv_aload_n hx hb d_M_know_10 rfl (lv_at hl 1 rfl) ?_
      refine mm_get hx hb hts hown hK hP (index := 28) 6 (by decide) mf_M_28 (v := .ref (am 7)) rfl d_M_know_11 ?_
      refine lv_iload_n hx hb d_M_know_14 rfl (lv_at hl 0 rfl) ?_
      refine mm_ald hx hb hK hP 6 (by decide) rfl (k) rfl (show k < 15 from by omega) (ar 7 k) (rfl) d_M_know_15 ?_
      refine lv_if_ne (tgt := 44) hx hb d_M_know_16 rfl (fun h16 => absurd (by rw [c0]; rfl) h16) (fun h16 => ?_)
      refine lv_aload_n hx hb d_M_know_19 rfl (lv_at hl 1 rfl) ?_
      refine mm_get hx hb hts hown hK hP (index := 89) 26 (by decide) mf_M_89 (v := .ref (am 27)) rfl d_M_know_20 ?_
      refine lv_iload_n hx hb d_M_know_23 rfl (lv_at hl 0 rfl) ?_
      refine lv_aload_n hx hb d_M_know_24 rfl (lv_at hl 1 rfl) ?_
      refine mm_get hx hb hts hown hK hP (index := 46) 12 (by decide) mf_M_46 (v := .ref (am 13)) rfl d_M_know_25 ?_
      refine lv_aload_n hx hb d_M_know_28 rfl (lv_at hl 1 rfl) ?_
      refine mm_get hx hb hts hown hK hP (index := 37) 9 (by decide) mf_M_37 (v := .ref (am 10)) rfl d_M_know_29 ?_
      refine lv_iload_n hx hb d_M_know_32 rfl (lv_at hl 0 rfl) ?_
      refine mm_ald hx hb hK hP 9 (by decide) rfl (k) rfl (show k < 15 from by omega) (ar 10 k) (rfl) d_M_know_33 ?_
      refine mm_ald hx hb hK hP 12 (by decide) rfl (ar 10 k) rfl (show ar 10 k < 8 from by omega) (ar 13 (ar 10 k)) (rfl) d_M_know_34 ?_
      refine lv_if_lt (tgt := 42) hx hb d_M_know_35 rfl (fun h35 => ?_) (fun h35 => ?_)
      · skip
        have w := (zn_lt0 (hw _ (by omega))).mp h35
        have hv : 0 = kv ar h k := by unfold kv; rw [if_pos c0, if_neg (by omega)]
        refine lv_iconst (v := 0) hx hb d_M_know_42 rfl ?_
        refine mm_zast hx hb hK hP hD hS 26 (by decide) rfl (k) rfl (show k < 15 from by omega) (0) (rfl) (by decide) d_M_know_43 (fun H locs hP hS => ?_)
        refine lv_aload_n hx hb d_M_know_44 rfl (lv_at hl 1 rfl) ?_
        refine mm_get hx hb hts hown hK hP (index := 28) 6 (by decide) mf_M_28 (v := .ref (am 7)) rfl d_M_know_45 ?_
        refine lv_iload_n hx hb d_M_know_48 rfl (lv_at hl 0 rfl) ?_
        refine mm_ald hx hb hK hP 6 (by decide) rfl (k) rfl (show k < 15 from by omega) (ar 7 k) (rfl) d_M_know_49 ?_
        refine lv_iconst (v := 1) hx hb d_M_know_50 rfl ?_
        refine lv_icmp_ne (tgt := 93) hx hb d_M_know_51 rfl (fun h51 => ?_) (fun h51 => absurd h51 (by rw [c0]; decide))
        refine lv_aload_n hx hb d_M_know_93 rfl (lv_at hl 1 rfl) ?_
        refine mm_get hx hb hts hown hK hP (index := 28) 6 (by decide) mf_M_28 (v := .ref (am 7)) rfl d_M_know_94 ?_
        refine lv_iload_n hx hb d_M_know_97 rfl (lv_at hl 0 rfl) ?_
        refine mm_ald hx hb hK hP 6 (by decide) rfl (k) rfl (show k < 15 from by omega) (ar 7 k) (rfl) d_M_know_98 ?_
        refine lv_iconst (v := 2) hx hb d_M_know_99 rfl ?_
        refine lv_icmp_ne (tgt := 142) hx hb d_M_know_100 rfl (fun h100 => ?_) (fun h100 => absurd h100 (by rw [c0]; decide))
        refine lv_iinc (k := 0) (v := nI (k + 1)) (lv' := [(1, .int (nI (k + 1))), (0, .ref (am 0))]) hx hb d_M_know_142 hl rfl (nI_1 _) (by decide) rfl (fun ls hl => ?_)
        refine lv_goto (tgt := 2) hx hb d_M_know_145 rfl ?_
        rw [zs_up] at hP
        have hl := lv_sub (l' := [(1, .int (nI (k + 1))), (0, .ref (am 0))]) hl [0, 1] rfl
        exact ih (k + 1) (by omega) (va_up h k 0) H locs ls (kOK_s hk0 hT hN hv) (up_lt hh (by decide)) hP hS hl
      · skip
        have w := mt (zn_lt0 (hw _ (by omega))).mpr h35
        have hv : 1 = kv ar h k := by unfold kv; rw [if_pos c0, if_pos (by omega)]
        refine lv_iconst (v := 1) hx hb d_M_know_38 rfl ?_
        refine lv_goto (tgt := 43) hx hb d_M_know_39 rfl ?_
        refine mm_zast hx hb hK hP hD hS 26 (by decide) rfl (k) rfl (show k < 15 from by omega) (1) (rfl) (by decide) d_M_know_43 (fun H locs hP hS => ?_)
        refine lv_aload_n hx hb d_M_know_44 rfl (lv_at hl 1 rfl) ?_
        refine mm_get hx hb hts hown hK hP (index := 28) 6 (by decide) mf_M_28 (v := .ref (am 7)) rfl d_M_know_45 ?_
        refine lv_iload_n hx hb d_M_know_48 rfl (lv_at hl 0 rfl) ?_
        refine mm_ald hx hb hK hP 6 (by decide) rfl (k) rfl (show k < 15 from by omega) (ar 7 k) (rfl) d_M_know_49 ?_
        refine lv_iconst (v := 1) hx hb d_M_know_50 rfl ?_
        refine lv_icmp_ne (tgt := 93) hx hb d_M_know_51 rfl (fun h51 => ?_) (fun h51 => absurd h51 (by rw [c0]; decide))
        refine lv_aload_n hx hb d_M_know_93 rfl (lv_at hl 1 rfl) ?_
        refine mm_get hx hb hts hown hK hP (index := 28) 6 (by decide) mf_M_28 (v := .ref (am 7)) rfl d_M_know_94 ?_
        refine lv_iload_n hx hb d_M_know_97 rfl (lv_at hl 0 rfl) ?_
        refine mm_ald hx hb hK hP 6 (by decide) rfl (k) rfl (show k < 15 from by omega) (ar 7 k) (rfl) d_M_know_98 ?_
        refine lv_iconst (v := 2) hx hb d_M_know_99 rfl ?_
        refine lv_icmp_ne (tgt := 142) hx hb d_M_know_100 rfl (fun h100 => ?_) (fun h100 => absurd h100 (by rw [c0]; decide))
        refine lv_iinc (k := 0) (v := nI (k + 1)) (lv' := [(1, .int (nI (k + 1))), (0, .ref (am 0))]) hx hb d_M_know_142 hl rfl (nI_1 _) (by decide) rfl (fun ls hl => ?_)
        refine lv_goto (tgt := 2) hx hb d_M_know_145 rfl ?_
        rw [zs_up] at hP
        have hl := lv_sub (l' := [(1, .int (nI (k + 1))), (0, .ref (am 0))]) hl [0, 1] rfl
        exact ih (k + 1) (by omega) (va_up h k 1) H locs ls (kOK_s hk0 hT hN hv) (up_lt hh (by decide)) hP hS hl
    · skip
      have hch := hch (by rw [c0]; decide)
      have hb1 := hh _ hch.1
      have hb2 := hh _ hch.2
      refine lv_iload_n hx hb d_M_know_2 rfl (lv_at hl 0 rfl) ?_
      refine lv_aload_n hx hb d_M_know_3 rfl (lv_at hl 1 rfl) ?_
      refine mm_get hx hb hts hown hK hP (index := 122) 28 (by decide) mf_M_122 (v := .int (nI (ar 0 1))) rfl d_M_know_4 ?_
      refine lv_icmp_ge (tgt := 148) hx hb d_M_know_7 rfl (fun h7 => absurd h7 (nI_ge hN (by omega))) (fun h7 => ?_)
      refine lv_aload_n hx hb d_M_know_10 rfl (lv_at hl 1 rfl) ?_
      refine mm_get hx hb hts hown hK hP (index := 28) 6 (by decide) mf_M_28 (v := .ref (am 7)) rfl d_M_know_11 ?_
      refine lv_iload_n hx hb d_M_know_14 rfl (lv_at hl 0 rfl) ?_
      refine mm_ald hx hb hK hP 6 (by decide) rfl (k) rfl (show k < 15 from by omega) (ar 7 k) (rfl) d_M_know_15 ?_
      refine lv_if_ne (tgt := 44) hx hb d_M_know_16 rfl (fun h16 => ?_) (fun h16 => absurd h16 (by rw [c0]; decide))
      refine lv_aload_n hx hb d_M_know_44 rfl (lv_at hl 1 rfl) ?_
      refine mm_get hx hb hts hown hK hP (index := 28) 6 (by decide) mf_M_28 (v := .ref (am 7)) rfl d_M_know_45 ?_
      refine lv_iload_n hx hb d_M_know_48 rfl (lv_at hl 0 rfl) ?_
      refine mm_ald hx hb hK hP 6 (by decide) rfl (k) rfl (show k < 15 from by omega) (ar 7 k) (rfl) d_M_know_49 ?_
      refine lv_iconst (v := 1) hx hb d_M_know_50 rfl ?_
      refine lv_icmp_ne (tgt := 93) hx hb d_M_know_51 rfl (fun h51 => absurd (by rw [c0]; rfl) h51) (fun h51 => ?_)
      refine lv_aload_n hx hb d_M_know_54 rfl (lv_at hl 1 rfl) ?_
      refine mm_get hx hb hts hown hK hP (index := 89) 26 (by decide) mf_M_89 (v := .ref (am 27)) rfl d_M_know_55 ?_
      refine lv_iload_n hx hb d_M_know_58 rfl (lv_at hl 0 rfl) ?_
      refine lv_aload_n hx hb d_M_know_59 rfl (lv_at hl 1 rfl) ?_
      refine mm_get hx hb hts hown hK hP (index := 89) 26 (by decide) mf_M_89 (v := .ref (am 27)) rfl d_M_know_60 ?_
      refine lv_aload_n hx hb d_M_know_63 rfl (lv_at hl 1 rfl) ?_
      refine mm_get hx hb hts hown hK hP (index := 31) 7 (by decide) mf_M_31 (v := .ref (am 8)) rfl d_M_know_64 ?_
      refine lv_iload_n hx hb d_M_know_67 rfl (lv_at hl 0 rfl) ?_
      refine mm_ald hx hb hK hP 7 (by decide) rfl (k) rfl (show k < 15 from by omega) (ar 8 k) (rfl) d_M_know_68 ?_
      refine mm_zald hx hb hK hP 26 (by decide) rfl (ar 8 k) rfl (show ar 8 k < 15 from by omega) (h (ar 8 k)) (rfl) d_M_know_69 ?_
      refine lv_if_eq (tgt := 91) hx hb d_M_know_70 rfl (fun h70 => ?_) (fun h70 => ?_)
      · skip
        have e1 := b_z hb1 h70
        have hv : 0 = kv ar h k := by unfold kv; rw [if_neg (by rw [c0]; decide), if_pos c0, if_neg (by rw [e1]; exact fun q => absurd q.1 (by decide))]
        refine lv_iconst (v := 0) hx hb d_M_know_91 rfl ?_
        refine mm_zast hx hb hK hP hD hS 26 (by decide) rfl (k) rfl (show k < 15 from by omega) (0) (rfl) (by decide) d_M_know_92 (fun H locs hP hS => ?_)
        refine lv_aload_n hx hb d_M_know_93 rfl (lv_at hl 1 rfl) ?_
        refine mm_get hx hb hts hown hK hP (index := 28) 6 (by decide) mf_M_28 (v := .ref (am 7)) rfl d_M_know_94 ?_
        refine lv_iload_n hx hb d_M_know_97 rfl (lv_at hl 0 rfl) ?_
        refine mm_ald hx hb hK hP 6 (by decide) rfl (k) rfl (show k < 15 from by omega) (ar 7 k) (rfl) d_M_know_98 ?_
        refine lv_iconst (v := 2) hx hb d_M_know_99 rfl ?_
        refine lv_icmp_ne (tgt := 142) hx hb d_M_know_100 rfl (fun h100 => ?_) (fun h100 => absurd h100 (by rw [c0]; decide))
        refine lv_iinc (k := 0) (v := nI (k + 1)) (lv' := [(1, .int (nI (k + 1))), (0, .ref (am 0))]) hx hb d_M_know_142 hl rfl (nI_1 _) (by decide) rfl (fun ls hl => ?_)
        refine lv_goto (tgt := 2) hx hb d_M_know_145 rfl ?_
        rw [zs_up] at hP
        have hl := lv_sub (l' := [(1, .int (nI (k + 1))), (0, .ref (am 0))]) hl [0, 1] rfl
        exact ih (k + 1) (by omega) (va_up h k 0) H locs ls (kOK_s hk0 hT hN hv) (up_lt hh (by decide)) hP hS hl
      · skip
        have e1 := b_o hb1 h70
        refine lv_aload_n hx hb d_M_know_73 rfl (lv_at hl 1 rfl) ?_
        refine mm_get hx hb hts hown hK hP (index := 89) 26 (by decide) mf_M_89 (v := .ref (am 27)) rfl d_M_know_74 ?_
        refine lv_aload_n hx hb d_M_know_77 rfl (lv_at hl 1 rfl) ?_
        refine mm_get hx hb hts hown hK hP (index := 34) 8 (by decide) mf_M_34 (v := .ref (am 9)) rfl d_M_know_78 ?_
        refine lv_iload_n hx hb d_M_know_81 rfl (lv_at hl 0 rfl) ?_
        refine mm_ald hx hb hK hP 8 (by decide) rfl (k) rfl (show k < 15 from by omega) (ar 9 k) (rfl) d_M_know_82 ?_
        refine mm_zald hx hb hK hP 26 (by decide) rfl (ar 9 k) rfl (show ar 9 k < 15 from by omega) (h (ar 9 k)) (rfl) d_M_know_83 ?_
        refine lv_if_eq (tgt := 91) hx hb d_M_know_84 rfl (fun h84 => ?_) (fun h84 => ?_)
        · skip
          have e2 := b_z hb2 h84
          have hv : 0 = kv ar h k := by unfold kv; rw [if_neg (by rw [c0]; decide), if_pos c0, if_neg (by rw [e2]; exact fun q => absurd q.2 (by decide))]
          refine lv_iconst (v := 0) hx hb d_M_know_91 rfl ?_
          refine mm_zast hx hb hK hP hD hS 26 (by decide) rfl (k) rfl (show k < 15 from by omega) (0) (rfl) (by decide) d_M_know_92 (fun H locs hP hS => ?_)
          refine lv_aload_n hx hb d_M_know_93 rfl (lv_at hl 1 rfl) ?_
          refine mm_get hx hb hts hown hK hP (index := 28) 6 (by decide) mf_M_28 (v := .ref (am 7)) rfl d_M_know_94 ?_
          refine lv_iload_n hx hb d_M_know_97 rfl (lv_at hl 0 rfl) ?_
          refine mm_ald hx hb hK hP 6 (by decide) rfl (k) rfl (show k < 15 from by omega) (ar 7 k) (rfl) d_M_know_98 ?_
          refine lv_iconst (v := 2) hx hb d_M_know_99 rfl ?_
          refine lv_icmp_ne (tgt := 142) hx hb d_M_know_100 rfl (fun h100 => ?_) (fun h100 => absurd h100 (by rw [c0]; decide))
          refine lv_iinc (k := 0) (v := nI (k + 1)) (lv' := [(1, .int (nI (k + 1))), (0, .ref (am 0))]) hx hb d_M_know_142 hl rfl (nI_1 _) (by decide) rfl (fun ls hl => ?_)
          refine lv_goto (tgt := 2) hx hb d_M_know_145 rfl ?_
          rw [zs_up] at hP
          have hl := lv_sub (l' := [(1, .int (nI (k + 1))), (0, .ref (am 0))]) hl [0, 1] rfl
          exact ih (k + 1) (by omega) (va_up h k 0) H locs ls (kOK_s hk0 hT hN hv) (up_lt hh (by decide)) hP hS hl
        · skip
          have e2 := b_o hb2 h84
          have hv : 1 = kv ar h k := by unfold kv; rw [if_neg (by rw [c0]; decide), if_pos c0, if_pos ⟨e1, e2⟩]
          refine lv_iconst (v := 1) hx hb d_M_know_87 rfl ?_
          refine lv_goto (tgt := 92) hx hb d_M_know_88 rfl ?_
          refine mm_zast hx hb hK hP hD hS 26 (by decide) rfl (k) rfl (show k < 15 from by omega) (1) (rfl) (by decide) d_M_know_92 (fun H locs hP hS => ?_)
          refine lv_aload_n hx hb d_M_know_93 rfl (lv_at hl 1 rfl) ?_
          refine mm_get hx hb hts hown hK hP (index := 28) 6 (by decide) mf_M_28 (v := .ref (am 7)) rfl d_M_know_94 ?_
          refine lv_iload_n hx hb d_M_know_97 rfl (lv_at hl 0 rfl) ?_
          refine mm_ald hx hb hK hP 6 (by decide) rfl (k) rfl (show k < 15 from by omega) (ar 7 k) (rfl) d_M_know_98 ?_
          refine lv_iconst (v := 2) hx hb d_M_know_99 rfl ?_
          refine lv_icmp_ne (tgt := 142) hx hb d_M_know_100 rfl (fun h100 => ?_) (fun h100 => absurd h100 (by rw [c0]; decide))
          refine lv_iinc (k := 0) (v := nI (k + 1)) (lv' := [(1, .int (nI (k + 1))), (0, .ref (am 0))]) hx hb d_M_know_142 hl rfl (nI_1 _) (by decide) rfl (fun ls hl => ?_)
          refine lv_goto (tgt := 2) hx hb d_M_know_145 rfl ?_
          rw [zs_up] at hP
          have hl := lv_sub (l' := [(1, .int (nI (k + 1))), (0, .ref (am 0))]) hl [0, 1] rfl
          exact ih (k + 1) (by omega) (va_up h k 1) H locs ls (kOK_s hk0 hT hN hv) (up_lt hh (by decide)) hP hS hl
    · skip
      have hch := hch (by rw [c0]; decide)
      have hb1 := hh _ hch.1
      have hb2 := hh _ hch.2
      refine lv_iload_n hx hb d_M_know_2 rfl (lv_at hl 0 rfl) ?_
      refine lv_aload_n hx hb d_M_know_3 rfl (lv_at hl 1 rfl) ?_
      refine mm_get hx hb hts hown hK hP (index := 122) 28 (by decide) mf_M_122 (v := .int (nI (ar 0 1))) rfl d_M_know_4 ?_
      refine lv_icmp_ge (tgt := 148) hx hb d_M_know_7 rfl (fun h7 => absurd h7 (nI_ge hN (by omega))) (fun h7 => ?_)
      refine lv_aload_n hx hb d_M_know_10 rfl (lv_at hl 1 rfl) ?_
      refine mm_get hx hb hts hown hK hP (index := 28) 6 (by decide) mf_M_28 (v := .ref (am 7)) rfl d_M_know_11 ?_
      refine lv_iload_n hx hb d_M_know_14 rfl (lv_at hl 0 rfl) ?_
      refine mm_ald hx hb hK hP 6 (by decide) rfl (k) rfl (show k < 15 from by omega) (ar 7 k) (rfl) d_M_know_15 ?_
      refine lv_if_ne (tgt := 44) hx hb d_M_know_16 rfl (fun h16 => ?_) (fun h16 => absurd h16 (by rw [c0]; decide))
      refine lv_aload_n hx hb d_M_know_44 rfl (lv_at hl 1 rfl) ?_
      refine mm_get hx hb hts hown hK hP (index := 28) 6 (by decide) mf_M_28 (v := .ref (am 7)) rfl d_M_know_45 ?_
      refine lv_iload_n hx hb d_M_know_48 rfl (lv_at hl 0 rfl) ?_
      refine mm_ald hx hb hK hP 6 (by decide) rfl (k) rfl (show k < 15 from by omega) (ar 7 k) (rfl) d_M_know_49 ?_
      refine lv_iconst (v := 1) hx hb d_M_know_50 rfl ?_
      refine lv_icmp_ne (tgt := 93) hx hb d_M_know_51 rfl (fun h51 => ?_) (fun h51 => absurd h51 (by rw [c0]; decide))
      refine lv_aload_n hx hb d_M_know_93 rfl (lv_at hl 1 rfl) ?_
      refine mm_get hx hb hts hown hK hP (index := 28) 6 (by decide) mf_M_28 (v := .ref (am 7)) rfl d_M_know_94 ?_
      refine lv_iload_n hx hb d_M_know_97 rfl (lv_at hl 0 rfl) ?_
      refine mm_ald hx hb hK hP 6 (by decide) rfl (k) rfl (show k < 15 from by omega) (ar 7 k) (rfl) d_M_know_98 ?_
      refine lv_iconst (v := 2) hx hb d_M_know_99 rfl ?_
      refine lv_icmp_ne (tgt := 142) hx hb d_M_know_100 rfl (fun h100 => absurd (by rw [c0]; rfl) h100) (fun h100 => ?_)
      refine lv_aload_n hx hb d_M_know_103 rfl (lv_at hl 1 rfl) ?_
      refine mm_get hx hb hts hown hK hP (index := 89) 26 (by decide) mf_M_89 (v := .ref (am 27)) rfl d_M_know_104 ?_
      refine lv_iload_n hx hb d_M_know_107 rfl (lv_at hl 0 rfl) ?_
      refine lv_aload_n hx hb d_M_know_108 rfl (lv_at hl 1 rfl) ?_
      refine mm_get hx hb hts hown hK hP (index := 89) 26 (by decide) mf_M_89 (v := .ref (am 27)) rfl d_M_know_109 ?_
      refine lv_aload_n hx hb d_M_know_112 rfl (lv_at hl 1 rfl) ?_
      refine mm_get hx hb hts hown hK hP (index := 31) 7 (by decide) mf_M_31 (v := .ref (am 8)) rfl d_M_know_113 ?_
      refine lv_iload_n hx hb d_M_know_116 rfl (lv_at hl 0 rfl) ?_
      refine mm_ald hx hb hK hP 7 (by decide) rfl (k) rfl (show k < 15 from by omega) (ar 8 k) (rfl) d_M_know_117 ?_
      refine mm_zald hx hb hK hP 26 (by decide) rfl (ar 8 k) rfl (show ar 8 k < 15 from by omega) (h (ar 8 k)) (rfl) d_M_know_118 ?_
      refine lv_if_ne (tgt := 136) hx hb d_M_know_119 rfl (fun h119 => ?_) (fun h119 => ?_)
      · skip
        have e1 := b_o hb1 h119
        have hv : 1 = kv ar h k := by unfold kv; rw [if_neg (by rw [c0]; decide), if_neg (by rw [c0]; decide), if_pos (Or.inl e1)]
        refine lv_iconst (v := 1) hx hb d_M_know_136 rfl ?_
        refine lv_goto (tgt := 141) hx hb d_M_know_137 rfl ?_
        refine mm_zast hx hb hK hP hD hS 26 (by decide) rfl (k) rfl (show k < 15 from by omega) (1) (rfl) (by decide) d_M_know_141 (fun H locs hP hS => ?_)
        refine lv_iinc (k := 0) (v := nI (k + 1)) (lv' := [(1, .int (nI (k + 1))), (0, .ref (am 0))]) hx hb d_M_know_142 hl rfl (nI_1 _) (by decide) rfl (fun ls hl => ?_)
        refine lv_goto (tgt := 2) hx hb d_M_know_145 rfl ?_
        rw [zs_up] at hP
        have hl := lv_sub (l' := [(1, .int (nI (k + 1))), (0, .ref (am 0))]) hl [0, 1] rfl
        exact ih (k + 1) (by omega) (va_up h k 1) H locs ls (kOK_s hk0 hT hN hv) (up_lt hh (by decide)) hP hS hl
      · skip
        have e1 := b_z hb1 h119
        refine lv_aload_n hx hb d_M_know_122 rfl (lv_at hl 1 rfl) ?_
        refine mm_get hx hb hts hown hK hP (index := 89) 26 (by decide) mf_M_89 (v := .ref (am 27)) rfl d_M_know_123 ?_
        refine lv_aload_n hx hb d_M_know_126 rfl (lv_at hl 1 rfl) ?_
        refine mm_get hx hb hts hown hK hP (index := 34) 8 (by decide) mf_M_34 (v := .ref (am 9)) rfl d_M_know_127 ?_
        refine lv_iload_n hx hb d_M_know_130 rfl (lv_at hl 0 rfl) ?_
        refine mm_ald hx hb hK hP 8 (by decide) rfl (k) rfl (show k < 15 from by omega) (ar 9 k) (rfl) d_M_know_131 ?_
        refine mm_zald hx hb hK hP 26 (by decide) rfl (ar 9 k) rfl (show ar 9 k < 15 from by omega) (h (ar 9 k)) (rfl) d_M_know_132 ?_
        refine lv_if_eq (tgt := 140) hx hb d_M_know_133 rfl (fun h133 => ?_) (fun h133 => ?_)
        · skip
          have e2 := b_z hb2 h133
          have hv : 0 = kv ar h k := by unfold kv; rw [if_neg (by rw [c0]; decide), if_neg (by rw [c0]; decide), if_neg (by rw [e1, e2]; decide)]
          refine lv_iconst (v := 0) hx hb d_M_know_140 rfl ?_
          refine mm_zast hx hb hK hP hD hS 26 (by decide) rfl (k) rfl (show k < 15 from by omega) (0) (rfl) (by decide) d_M_know_141 (fun H locs hP hS => ?_)
          refine lv_iinc (k := 0) (v := nI (k + 1)) (lv' := [(1, .int (nI (k + 1))), (0, .ref (am 0))]) hx hb d_M_know_142 hl rfl (nI_1 _) (by decide) rfl (fun ls hl => ?_)
          refine lv_goto (tgt := 2) hx hb d_M_know_145 rfl ?_
          rw [zs_up] at hP
          have hl := lv_sub (l' := [(1, .int (nI (k + 1))), (0, .ref (am 0))]) hl [0, 1] rfl
          exact ih (k + 1) (by omega) (va_up h k 0) H locs ls (kOK_s hk0 hT hN hv) (up_lt hh (by decide)) hP hS hl
        · skip
          have e2 := b_o hb2 h133
          have hv : 1 = kv ar h k := by unfold kv; rw [if_neg (by rw [c0]; decide), if_neg (by rw [c0]; decide), if_pos (Or.inr e2)]
          refine lv_iconst (v := 1) hx hb d_M_know_136 rfl ?_
          refine lv_goto (tgt := 141) hx hb d_M_know_137 rfl ?_
          refine mm_zast hx hb hK hP hD hS 26 (by decide) rfl (k) rfl (show k < 15 from by omega) (1) (rfl) (by decide) d_M_know_141 (fun H locs hP hS => ?_)
          refine lv_iinc (k := 0) (v := nI (k + 1)) (lv' := [(1, .int (nI (k + 1))), (0, .ref (am 0))]) hx hb d_M_know_142 hl rfl (nI_1 _) (by decide) rfl (fun ls hl => ?_)
          refine lv_goto (tgt := 2) hx hb d_M_know_145 rfl ?_
          rw [zs_up] at hP
          have hl := lv_sub (l' := [(1, .int (nI (k + 1))), (0, .ref (am 0))]) hl [0, 1] rfl
          exact ih (k + 1) (by omega) (va_up h k 1) H locs ls (kOK_s hk0 hT hN hv) (up_lt hh (by decide)) hP hS hl
end MK

theorem va_up_row (ar : Nat → Nat → Nat) (j : Nat) : va_up ar j (ar j) = ar := by
  funext q
  unfold va_up
  split
  · rename_i h; rw [h]
  · rfl

set_option maxHeartbeats 4000000 in
set_option maxRecDepth 100000 in
/-- know() -/
theorem k_knowM (l : Launch) (D : va_G) (ca : Nat → ClassId) (am : Nat → Nat) (ar : Nat → Nat → Nat) (hI : mI am) (hT : tT ar) (hw : ∀ i, i < 8 → ar 13 i < 2 ^ 32) : Met l y_M_know (Cond.code y_M_know c_M_know 2 none :: zT) ({ frames := 1, cells := 0, slots := 0, locals := 40 }) (va_Pc [.ref (am 0)] (mw D ca am ar)) (va_Qv (fun ar1 => ∃ h : Nat → Nat, kOK ar h (ar 0 1) ∧ (∀ k, k < ar 0 1 → h k < 2) ∧ ar1 = va_up ar 27 h) (mw D ca am) (mA am)) 0 0 (mA am) := by
  refine Met.ofW (cc := c_M_know) (maxL := 2) (ret := none) (by decide) rfl ?_
  intro p e s m args below meth c s₁ B hml hv
  obtain ⟨rfl, hK, hP⟩ := hv
  have hx := B.exec
  have hb := B.bytes
  have hr := B.returns
  have hts0 := atoms_spec (ws := Cond.code y_M_know c_M_know 2 none :: zT) B.pre
  have hts := fun w h => hts0 w (List.mem_cons_of_mem _ h)
  have hown : s.vm.findClass R_M = some m.cls := findClass_of_methodNamed B.named
  have hlocks := B.notSynchronized
  have hD := mI_D hI
  have hS : va_S (mA am) s.heap s.heap [] := va_S.rf
  have hAA : ∀ q, mA am q → mA am q := fun _ h => h
  have hl := lv_entry ([.ref (am 0)]) (n := 2) (Nat.le_of_ble_eq_true rfl)
  rw [lg_entry_eq]
  generalize (lg_sl ([.ref (am 0)]) ++ List.replicate (2 - (lg_sl ([.ref (am 0)])).length) Slot.unset).toArray = ls at hl ⊢
  have hl : lv_has ls 2 [(0, .ref (am 0))] := hl
  skip
  refine lv_iconst (v := 0) hx hb d_M_know_0 rfl ?_
  refine lv_istore_n (lv' := [(1, .int 0), (0, .ref (am 0))]) hx hb d_M_know_1 rfl hl (by decide) rfl (fun ls hl => ?_)
  have hP : va_P D zC (zl 28 am (mct ca am (va_up ar 27 (ar 27)))) s.heap := by rw [va_up_row]; exact hP
  refine know_loop hx hb hml hown hts hK hD hT hw (fun h H locs ls hk hh hP hS => ?_) (ar 0 1) 0 (Nat.zero_add _) (ar 27) s.heap [] ls (fun _ q => absurd q (Nat.not_lt_zero _)) (fun _ q => absurd q (Nat.not_lt_zero _)) hP hS hl
  exact W.vret hx hb hr (fun t ht hW => ⟨⟨va_up ar 27 h, rfl, ⟨h, hk, hh, rfl⟩, va_K.moved hW.alike hK, by rw [ht]; exact hP⟩, hS.F ht⟩) hS.2.2 d_M_know_148

theorem d_M_known_0 : decode c_M_known 0 = .ok (.aload_n 0, 1) := by decide +kernel
theorem d_M_known_1 : decode c_M_known 1 = .ok (.invokevirtual 142, 3) := by decide +kernel
theorem d_M_known_4 : decode c_M_known 4 = .ok (.aload_n 0, 1) := by decide +kernel
theorem d_M_known_5 : decode c_M_known 5 = .ok (.getfield 122, 3) := by decide +kernel
theorem d_M_known_8 : decode c_M_known 8 = .ok (.ifCond .le 21, 3) := by decide +kernel
theorem d_M_known_11 : decode c_M_known 11 = .ok (.aload_n 0, 1) := by decide +kernel
theorem d_M_known_12 : decode c_M_known 12 = .ok (.getfield 89, 3) := by decide +kernel
theorem d_M_known_15 : decode c_M_known 15 = .ok (.aload_n 0, 1) := by decide +kernel
theorem d_M_known_16 : decode c_M_known 16 = .ok (.getfield 122, 3) := by decide +kernel
theorem d_M_known_19 : decode c_M_known 19 = .ok (.iconst 1, 1) := by decide +kernel
theorem d_M_known_20 : decode c_M_known 20 = .ok (.isub, 1) := by decide +kernel
theorem d_M_known_21 : decode c_M_known 21 = .ok (.baload, 1) := by decide +kernel
theorem d_M_known_22 : decode c_M_known 22 = .ok (.ifCond .eq 7, 3) := by decide +kernel
theorem d_M_known_25 : decode c_M_known 25 = .ok (.iconst 1, 1) := by decide +kernel
theorem d_M_known_26 : decode c_M_known 26 = .ok (.goto 4, 3) := by decide +kernel
theorem d_M_known_29 : decode c_M_known 29 = .ok (.iconst 0, 1) := by decide +kernel
theorem d_M_known_30 : decode c_M_known 30 = .ok (.ireturn, 1) := by decide +kernel

set_option maxHeartbeats 4000000 in
set_option maxRecDepth 100000 in
/-- known() -/
theorem k_knownM (l : Launch) (D : va_G) (ca : Nat → ClassId) (am : Nat → Nat) (ar : Nat → Nat → Nat) (hI : mI am) (hT : tT ar) (hw : ∀ i, i < 8 → ar 13 i < 2 ^ 32) : Met l y_M_known (Cond.code y_M_known c_M_known 1 (some .boolean) :: zT) ({ frames := 2, cells := 0, slots := 0, locals := 80 }) (va_Pc [.ref (am 0)] (mw D ca am ar)) (va_Qi (fun r ar1 => ∃ h : Nat → Nat, kOK ar h (ar 0 1) ∧ (∀ k, k < ar 0 1 → h k < 2) ∧ ar1 = va_up ar 27 h ∧ r = zb (decide (0 < ar 0 1) && decide (h (ar 0 1 - 1) = 1))) (mw D ca am) (mA am)) 0 0 (mA am) := by
  refine Met.ofW (cc := c_M_known) (maxL := 1) (ret := (some .boolean)) (by decide) rfl ?_
  intro p e s m args below meth c s₁ B hml hv
  obtain ⟨rfl, hK, hP⟩ := hv
  have hx := B.exec
  have hb := B.bytes
  have hr := B.returns
  have hts0 := atoms_spec (ws := Cond.code y_M_known c_M_known 1 (some .boolean) :: zT) B.pre
  have hts := fun w h => hts0 w (List.mem_cons_of_mem _ h)
  have hown : s.vm.findClass R_M = some m.cls := findClass_of_methodNamed B.named
  have hlocks := B.notSynchronized
  have hD := mI_D hI
  have hS : va_S (mA am) s.heap s.heap [] := va_S.rf
  have hAA : ∀ q, mA am q → mA am q := fun _ h => h
  have hl := lv_entry ([.ref (am 0)]) (n := 1) (Nat.le_of_ble_eq_true rfl)
  rw [lg_entry_eq]
  generalize (lg_sl ([.ref (am 0)]) ++ List.replicate (1 - (lg_sl ([.ref (am 0)])).length) Slot.unset).toArray = ls at hl ⊢
  have hl : lv_has ls 1 [(0, .ref (am 0))] := hl
  skip
  refine lv_aload_n hx hb d_M_known_0 rfl (lv_at hl 0 rfl) ?_
  refine mm_cv (index := 142) (n := 0) (As := []) (rest := []) ⟨hx, hb, hml, hown, hts⟩ (k_knowM l D ca am (ar) hI hT hw) mk_M_142 mo_M_know me_M_M_know_M mi_M mc_M_know (by decide +kernel) ⟨rfl, rfl⟩ ⟨by decide, by decide⟩ hK hP hS hAA rfl hl.1 rfl (Nat.le_of_ble_eq_true rfl) d_M_known_1 ⟨Nat.zero_le _, Nat.zero_le _⟩ (fun ar1 H locs hpost hP hS => ?_)
  obtain ⟨h, hk, hh, rfl⟩ := hpost
  have hs1 := hT.1
  refine lv_aload_n hx hb d_M_known_4 rfl (lv_at hl 0 rfl) ?_
  refine mm_get hx hb hts hown hK hP (index := 122) 28 (by decide) mf_M_122 (v := .int (nI (ar 0 1))) rfl d_M_known_5 ?_
  refine lv_if_le (tgt := 29) hx hb d_M_known_8 rfl (fun h8 => ?_) (fun h8 => ?_)
  · skip
    have z : ¬ 0 < ar 0 1 := fun q => nI_nle q (by omega) h8
    have hq : (decide (0 < ar 0 1) && decide (h (ar 0 1 - 1) = 1)) = false := by rw [decide_eq_false z, Bool.false_and]
    refine lv_iconst (v := 0) hx hb d_M_known_29 rfl ?_
    exact W.zret hx hb hr (rfl) (fun t ht hW => ⟨⟨_, va_up ar 27 h, rfl, ⟨h, hk, hh, rfl, by rw [hq]; rfl⟩, va_K.moved hW.alike hK, by rw [ht]; exact hP⟩, hS.F ht⟩) hS.2.2 d_M_known_30
  · skip
    have z : 0 < ar 0 1 := by
      rcases Nat.eq_zero_or_pos (ar 0 1) with q | q
      · exact absurd (by rw [q]; decide) h8
      · exact q
    have hb1 := hh (ar 0 1 - 1) (by omega)
    refine lv_aload_n hx hb d_M_known_11 rfl (lv_at hl 0 rfl) ?_
    refine mm_get hx hb hts hown hK hP (index := 89) 26 (by decide) mf_M_89 (v := .ref (am 27)) rfl d_M_known_12 ?_
    refine lv_aload_n hx hb d_M_known_15 rfl (lv_at hl 0 rfl) ?_
    refine mm_get hx hb hts hown hK hP (index := 122) 28 (by decide) mf_M_122 (v := .int (nI (ar 0 1))) rfl d_M_known_16 ?_
    refine lv_iconst (v := 1) hx hb d_M_known_19 rfl ?_
    refine lv_isub hx hb d_M_known_20 ?_
    refine zz_as (y := nI ((ar 0 1) - 1)) (pk_sub (a := ar 0 1) (b := 1) (by omega)) ?_
    refine mm_zald hx hb hK hP 26 (by decide) rfl ((ar 0 1) - 1) rfl (show (ar 0 1) - 1 < 15 from by omega) (h ((ar 0 1) - 1)) (rfl) d_M_known_21 ?_
    refine lv_if_eq (tgt := 29) hx hb d_M_known_22 rfl (fun h22 => ?_) (fun h22 => ?_)
    · skip
      have hq : (decide (0 < ar 0 1) && decide (h (ar 0 1 - 1) = 1)) = false := by rw [b_z hb1 h22, Bool.and_comm]; rfl
      refine lv_iconst (v := 0) hx hb d_M_known_29 rfl ?_
      exact W.zret hx hb hr (rfl) (fun t ht hW => ⟨⟨_, va_up ar 27 h, rfl, ⟨h, hk, hh, rfl, by rw [hq]; rfl⟩, va_K.moved hW.alike hK, by rw [ht]; exact hP⟩, hS.F ht⟩) hS.2.2 d_M_known_30
    · skip
      have hq : (decide (0 < ar 0 1) && decide (h (ar 0 1 - 1) = 1)) = true := by rw [decide_eq_true z, b_o hb1 h22]; rfl
      refine lv_iconst (v := 1) hx hb d_M_known_25 rfl ?_
      refine lv_goto (tgt := 30) hx hb d_M_known_26 rfl ?_
      exact W.zret hx hb hr (rfl) (fun t ht hW => ⟨⟨_, va_up ar 27 h, rfl, ⟨h, hk, hh, rfl, by rw [hq]; rfl⟩, va_K.moved hW.alike hK, by rw [ht]; exact hP⟩, hS.F ht⟩) hS.2.2 d_M_known_30
end
section
/-! the model's commitLeaf, commitOr -/
def cOr (ar : Nat → Nat → Nat) (k : Nat) (real : Bool) (c : Nat) : Nat → Nat → Nat := lat (lat (cmO k (real && decide (ar 27 (ar 8 k) = 1)) ar) (ar 9 k) (if real && !(real && decide (ar 27 (ar 8 k) = 1)) then 1 else 0) (if real then dv (dr (ar 0 5)) else ls5 c (dv (dr (ar 0 5))))) (ar 8 k) (if real && decide (ar 27 (ar 8 k) = 1) then 1 else 0) (dv (dr (ar 0 5)))

theorem d_M_commitLeaf_0 : decode c_M_commitLeaf 0 = .ok (.aload_n 0, 1) := by decide +kernel
theorem d_M_commitLeaf_1 : decode c_M_commitLeaf 1 = .ok (.invokevirtual 148, 3) := by decide +kernel
theorem d_M_commitLeaf_4 : decode c_M_commitLeaf 4 = .ok (.istore 4, 2) := by decide +kernel
theorem d_M_commitLeaf_6 : decode c_M_commitLeaf 6 = .ok (.aload_n 0, 1) := by decide +kernel
theorem d_M_commitLeaf_7 : decode c_M_commitLeaf 7 = .ok (.getfield 67, 3) := by decide +kernel
theorem d_M_commitLeaf_10 : decode c_M_commitLeaf 10 = .ok (.iload_n 1, 1) := by decide +kernel
theorem d_M_commitLeaf_11 : decode c_M_commitLeaf 11 = .ok (.iload 4, 2) := by decide +kernel
theorem d_M_commitLeaf_13 : decode c_M_commitLeaf 13 = .ok (.iastore, 1) := by decide +kernel
theorem d_M_commitLeaf_14 : decode c_M_commitLeaf 14 = .ok (.aload_n 0, 1) := by decide +kernel
theorem d_M_commitLeaf_15 : decode c_M_commitLeaf 15 = .ok (.getfield 52, 3) := by decide +kernel
theorem d_M_commitLeaf_18 : decode c_M_commitLeaf 18 = .ok (.iload_n 1, 1) := by decide +kernel
theorem d_M_commitLeaf_19 : decode c_M_commitLeaf 19 = .ok (.iload_n 2, 1) := by decide +kernel
theorem d_M_commitLeaf_20 : decode c_M_commitLeaf 20 = .ok (.ifCond .eq 7, 3) := by decide +kernel
theorem d_M_commitLeaf_23 : decode c_M_commitLeaf 23 = .ok (.iconst 0, 1) := by decide +kernel
theorem d_M_commitLeaf_24 : decode c_M_commitLeaf 24 = .ok (.goto 4, 3) := by decide +kernel
theorem d_M_commitLeaf_27 : decode c_M_commitLeaf 27 = .ok (.iload_n 3, 1) := by decide +kernel
theorem d_M_commitLeaf_28 : decode c_M_commitLeaf 28 = .ok (.iastore, 1) := by decide +kernel
theorem d_M_commitLeaf_29 : decode c_M_commitLeaf 29 = .ok (.aload_n 0, 1) := by decide +kernel
theorem d_M_commitLeaf_30 : decode c_M_commitLeaf 30 = .ok (.getfield 55, 3) := by decide +kernel
theorem d_M_commitLeaf_33 : decode c_M_commitLeaf 33 = .ok (.iload_n 1, 1) := by decide +kernel
theorem d_M_commitLeaf_34 : decode c_M_commitLeaf 34 = .ok (.iload_n 2, 1) := by decide +kernel
theorem d_M_commitLeaf_35 : decode c_M_commitLeaf 35 = .ok (.ifCond .eq 7, 3) := by decide +kernel
theorem d_M_commitLeaf_38 : decode c_M_commitLeaf 38 = .ok (.iconst 0, 1) := by decide +kernel
theorem d_M_commitLeaf_39 : decode c_M_commitLeaf 39 = .ok (.goto 5, 3) := by decide +kernel
theorem d_M_commitLeaf_42 : decode c_M_commitLeaf 42 = .ok (.iload 4, 2) := by decide +kernel
theorem d_M_commitLeaf_44 : decode c_M_commitLeaf 44 = .ok (.iastore, 1) := by decide +kernel
theorem d_M_commitLeaf_45 : decode c_M_commitLeaf 45 = .ok (.iconst 0, 1) := by decide +kernel
theorem d_M_commitLeaf_46 : decode c_M_commitLeaf 46 = .ok (.istore 5, 2) := by decide +kernel
theorem d_M_commitLeaf_48 : decode c_M_commitLeaf 48 = .ok (.iload 5, 2) := by decide +kernel
theorem d_M_commitLeaf_50 : decode c_M_commitLeaf 50 = .ok (.iconst 2, 1) := by decide +kernel
theorem d_M_commitLeaf_51 : decode c_M_commitLeaf 51 = .ok (.if_icmp .ge 87, 3) := by decide +kernel
theorem d_M_commitLeaf_54 : decode c_M_commitLeaf 54 = .ok (.aload_n 0, 1) := by decide +kernel
theorem d_M_commitLeaf_55 : decode c_M_commitLeaf 55 = .ok (.iload_n 1, 1) := by decide +kernel
theorem d_M_commitLeaf_56 : decode c_M_commitLeaf 56 = .ok (.iload 5, 2) := by decide +kernel
theorem d_M_commitLeaf_58 : decode c_M_commitLeaf 58 = .ok (.invokevirtual 138, 3) := by decide +kernel
theorem d_M_commitLeaf_61 : decode c_M_commitLeaf 61 = .ok (.ifCond .eq 71, 3) := by decide +kernel
theorem d_M_commitLeaf_64 : decode c_M_commitLeaf 64 = .ok (.iload_n 2, 1) := by decide +kernel
theorem d_M_commitLeaf_65 : decode c_M_commitLeaf 65 = .ok (.ifCond .eq 7, 3) := by decide +kernel
theorem d_M_commitLeaf_68 : decode c_M_commitLeaf 68 = .ok (.iconst 1, 1) := by decide +kernel
theorem d_M_commitLeaf_69 : decode c_M_commitLeaf 69 = .ok (.goto 26, 3) := by decide +kernel
theorem d_M_commitLeaf_72 : decode c_M_commitLeaf 72 = .ok (.aload_n 0, 1) := by decide +kernel
theorem d_M_commitLeaf_73 : decode c_M_commitLeaf 73 = .ok (.getfield 43, 3) := by decide +kernel
theorem d_M_commitLeaf_76 : decode c_M_commitLeaf 76 = .ok (.iconst 2, 1) := by decide +kernel
theorem d_M_commitLeaf_77 : decode c_M_commitLeaf 77 = .ok (.iload_n 1, 1) := by decide +kernel
theorem d_M_commitLeaf_78 : decode c_M_commitLeaf 78 = .ok (.imul, 1) := by decide +kernel
theorem d_M_commitLeaf_79 : decode c_M_commitLeaf 79 = .ok (.iload 5, 2) := by decide +kernel
theorem d_M_commitLeaf_81 : decode c_M_commitLeaf 81 = .ok (.iadd, 1) := by decide +kernel
theorem d_M_commitLeaf_82 : decode c_M_commitLeaf 82 = .ok (.iaload, 1) := by decide +kernel
theorem d_M_commitLeaf_83 : decode c_M_commitLeaf 83 = .ok (.sipush 5003, 3) := by decide +kernel
theorem d_M_commitLeaf_86 : decode c_M_commitLeaf 86 = .ok (.iload_n 3, 1) := by decide +kernel
theorem d_M_commitLeaf_87 : decode c_M_commitLeaf 87 = .ok (.isub, 1) := by decide +kernel
theorem d_M_commitLeaf_88 : decode c_M_commitLeaf 88 = .ok (.sipush 5003, 3) := by decide +kernel
theorem d_M_commitLeaf_91 : decode c_M_commitLeaf 91 = .ok (.irem, 1) := by decide +kernel
theorem d_M_commitLeaf_92 : decode c_M_commitLeaf 92 = .ok (.invokestatic 96, 3) := by decide +kernel
theorem d_M_commitLeaf_95 : decode c_M_commitLeaf 95 = .ok (.istore 6, 2) := by decide +kernel
theorem d_M_commitLeaf_97 : decode c_M_commitLeaf 97 = .ok (.aload_n 0, 1) := by decide +kernel
theorem d_M_commitLeaf_98 : decode c_M_commitLeaf 98 = .ok (.getfield 49, 3) := by decide +kernel
theorem d_M_commitLeaf_101 : decode c_M_commitLeaf 101 = .ok (.iconst 2, 1) := by decide +kernel
theorem d_M_commitLeaf_102 : decode c_M_commitLeaf 102 = .ok (.iload_n 1, 1) := by decide +kernel
theorem d_M_commitLeaf_103 : decode c_M_commitLeaf 103 = .ok (.imul, 1) := by decide +kernel
theorem d_M_commitLeaf_104 : decode c_M_commitLeaf 104 = .ok (.iload 5, 2) := by decide +kernel
theorem d_M_commitLeaf_106 : decode c_M_commitLeaf 106 = .ok (.iadd, 1) := by decide +kernel
theorem d_M_commitLeaf_107 : decode c_M_commitLeaf 107 = .ok (.aload_n 0, 1) := by decide +kernel
theorem d_M_commitLeaf_108 : decode c_M_commitLeaf 108 = .ok (.getfield 40, 3) := by decide +kernel
theorem d_M_commitLeaf_111 : decode c_M_commitLeaf 111 = .ok (.iconst 2, 1) := by decide +kernel
theorem d_M_commitLeaf_112 : decode c_M_commitLeaf 112 = .ok (.iload_n 1, 1) := by decide +kernel
theorem d_M_commitLeaf_113 : decode c_M_commitLeaf 113 = .ok (.imul, 1) := by decide +kernel
theorem d_M_commitLeaf_114 : decode c_M_commitLeaf 114 = .ok (.iload 5, 2) := by decide +kernel
theorem d_M_commitLeaf_116 : decode c_M_commitLeaf 116 = .ok (.iadd, 1) := by decide +kernel
theorem d_M_commitLeaf_117 : decode c_M_commitLeaf 117 = .ok (.iaload, 1) := by decide +kernel
theorem d_M_commitLeaf_118 : decode c_M_commitLeaf 118 = .ok (.iload 4, 2) := by decide +kernel
theorem d_M_commitLeaf_120 : decode c_M_commitLeaf 120 = .ok (.invokestatic 96, 3) := by decide +kernel
theorem d_M_commitLeaf_123 : decode c_M_commitLeaf 123 = .ok (.iload 6, 2) := by decide +kernel
theorem d_M_commitLeaf_125 : decode c_M_commitLeaf 125 = .ok (.sipush 10007, 3) := by decide +kernel
theorem d_M_commitLeaf_128 : decode c_M_commitLeaf 128 = .ok (.invokestatic 92, 3) := by decide +kernel
theorem d_M_commitLeaf_131 : decode c_M_commitLeaf 131 = .ok (.iastore, 1) := by decide +kernel
theorem d_M_commitLeaf_132 : decode c_M_commitLeaf 132 = .ok (.iinc 5 1, 3) := by decide +kernel
theorem d_M_commitLeaf_135 : decode c_M_commitLeaf 135 = .ok (.goto (-87), 3) := by decide +kernel
theorem d_M_commitLeaf_138 : decode c_M_commitLeaf 138 = .ok (.return_, 1) := by decide +kernel

set_option maxHeartbeats 4000000 in
set_option maxRecDepth 100000 in
/-- commitLeaf(n, real, c) -/
theorem k_commitLeafM (l : Launch) (D : va_G) (ca : Nat → ClassId) (am : Nat → Nat) (ar : Nat → Nat → Nat) (hI : mI am) (n : Nat) (real : Bool) (c0 : Nat) (hn : n < ar 0 2) (hl2 : ar 0 2 ≤ 8) (hc0 : c0 < 5003) (hbs : ∀ i, i < 16 → ar 11 i < 10007) (his : ∀ i, i < 16 → ar 12 i < 10007) : Met l y_M_commitLeaf (Cond.code y_M_commitLeaf c_M_commitLeaf 7 none :: zT) ({ frames := 4, cells := 0, slots := 0, locals := 160 }) (va_Pc [.ref (am 0), .int (nI n), .int (zb real), .int (nI c0)] (mw D ca am ar)) (va_Qv (fun ar1 => ar1 = cmL n real c0 ar) (mw D ca am) (mA am)) 0 0 (mA am) := by
  refine Met.ofW (cc := c_M_commitLeaf) (maxL := 7) (ret := none) (by decide) rfl ?_
  intro p e s m args below meth c s₁ B hml hv
  obtain ⟨rfl, hK, hP⟩ := hv
  have hx := B.exec
  have hb := B.bytes
  have hr := B.returns
  have hts0 := atoms_spec (ws := Cond.code y_M_commitLeaf c_M_commitLeaf 7 none :: zT) B.pre
  have hts := fun w h => hts0 w (List.mem_cons_of_mem _ h)
  have hown : s.vm.findClass R_M = some m.cls := findClass_of_methodNamed B.named
  have hlocks := B.notSynchronized
  have hD := mI_D hI
  have hS : va_S (mA am) s.heap s.heap [] := va_S.rf
  have hAA : ∀ q, mA am q → mA am q := fun _ h => h
  have hl := lv_entry ([.ref (am 0), .int (nI n), .int (zb real), .int (nI c0)]) (n := 7) (Nat.le_of_ble_eq_true rfl)
  rw [lg_entry_eq]
  generalize (lg_sl ([.ref (am 0), .int (nI n), .int (zb real), .int (nI c0)]) ++ List.replicate (7 - (lg_sl ([.ref (am 0), .int (nI n), .int (zb real), .int (nI c0)])).length) Slot.unset).toArray = ls at hl ⊢
  have hl : lv_has ls 7 [(0, .ref (am 0)), (1, .int (nI n)), (2, .int (zb real)), (3, .int (nI c0))] := hl
  skip
  cases real with
  | false =>
    refine lv_aload_n hx hb d_M_commitLeaf_0 rfl (lv_at hl 0 rfl) ?_
    refine mm_ci (index := 148) (n := 0) (As := []) (rest := []) ⟨hx, hb, hml, hown, hts⟩ (k_drawM l D ca am (ar) hI) mk_M_148 mo_M_draw me_M_M_draw_M mi_M mc_M_draw (by decide +kernel) ⟨rfl, rfl⟩ ⟨by decide, by decide⟩ hK hP hS hAA rfl hl.1 rfl (Nat.le_of_ble_eq_true rfl) d_M_commitLeaf_1 ⟨Nat.zero_le _, Nat.zero_le _⟩ (fun r ar1 H locs hpost hP hS => ?_)
    obtain ⟨hr1, har⟩ := hpost
    obtain ⟨d0, hd0⟩ : ∃ d, dr (ar 0 5) = d := ⟨_, rfl⟩
    rw [hd0] at hr1 har
    obtain ⟨x0, hx0⟩ : ∃ x, dv d0 = x := ⟨_, rfl⟩
    have hx1 : x0 < 5003 := by rw [← hx0]; exact dv_lt _
    rw [hx0] at hr1
    subst hr1 har
    refine lv_istore (lv' := [(4, .int (nI x0)), (0, .ref (am 0)), (1, .int (nI n)), (2, .int (zb false)), (3, .int (nI c0))]) hx hb d_M_commitLeaf_4 hl (by decide) rfl (fun ls hl => ?_)
    refine lv_aload_n hx hb d_M_commitLeaf_6 rfl (lv_at hl 1 rfl) ?_
    refine mm_get hx hb hts hown hK hP (index := 67) 19 (by decide) mf_M_67 (v := .ref (am 20)) rfl d_M_commitLeaf_7 ?_
    refine lv_iload_n hx hb d_M_commitLeaf_10 rfl (lv_at hl 2 rfl) ?_
    refine lv_iload hx hb d_M_commitLeaf_11 (lv_at hl 0 rfl) ?_
    refine mm_ast hx hb hK hP hD hS 19 (by decide) rfl (n) rfl (show n < 8 from by omega) (x0) (rfl) d_M_commitLeaf_13 (fun H locs hP hS => ?_)
    refine lv_aload_n hx hb d_M_commitLeaf_14 rfl (lv_at hl 1 rfl) ?_
    refine mm_get hx hb hts hown hK hP (index := 52) 14 (by decide) mf_M_52 (v := .ref (am 15)) rfl d_M_commitLeaf_15 ?_
    refine lv_iload_n hx hb d_M_commitLeaf_18 rfl (lv_at hl 2 rfl) ?_
    refine lv_iload_n hx hb d_M_commitLeaf_19 rfl (lv_at hl 3 rfl) ?_
    refine lv_if_eq (tgt := 27) hx hb d_M_commitLeaf_20 rfl (fun h20 => ?_) (fun h20 => absurd (rfl) h20)
    refine lv_iload_n hx hb d_M_commitLeaf_27 rfl (lv_at hl 4 rfl) ?_
    refine mm_ast hx hb hK hP hD hS 14 (by decide) rfl (n) rfl (show n < 8 from by omega) (c0) (rfl) d_M_commitLeaf_28 (fun H locs hP hS => ?_)
    refine lv_aload_n hx hb d_M_commitLeaf_29 rfl (lv_at hl 1 rfl) ?_
    refine mm_get hx hb hts hown hK hP (index := 55) 15 (by decide) mf_M_55 (v := .ref (am 16)) rfl d_M_commitLeaf_30 ?_
    refine lv_iload_n hx hb d_M_commitLeaf_33 rfl (lv_at hl 2 rfl) ?_
    refine lv_iload_n hx hb d_M_commitLeaf_34 rfl (lv_at hl 3 rfl) ?_
    refine lv_if_eq (tgt := 42) hx hb d_M_commitLeaf_35 rfl (fun h35 => ?_) (fun h35 => absurd (rfl) h35)
    refine lv_iload hx hb d_M_commitLeaf_42 (lv_at hl 0 rfl) ?_
    refine mm_ast hx hb hK hP hD hS 15 (by decide) rfl (n) rfl (show n < 8 from by omega) (x0) (rfl) d_M_commitLeaf_44 (fun H locs hP hS => ?_)
    refine lv_iconst (v := 0) hx hb d_M_commitLeaf_45 rfl ?_
    refine lv_istore (lv' := [(5, .int 0), (4, .int (nI x0)), (0, .ref (am 0)), (1, .int (nI n)), (2, .int (zb false)), (3, .int (nI c0))]) hx hb d_M_commitLeaf_46 hl (by decide) rfl (fun ls hl => ?_)
    have hl : lv_has ls 7 [(5, .int 0), (4, .int (nI x0)), (0, .ref (am 0)), (1, .int (nI n)), (2, .int (zb false)), (3, .int (nI c0))] := hl
    refine lv_iload hx hb d_M_commitLeaf_48 (lv_at hl 0 rfl) ?_
    refine lv_iconst (v := 2) hx hb d_M_commitLeaf_50 rfl ?_
    refine lv_icmp_ge (tgt := 138) hx hb d_M_commitLeaf_51 rfl (fun h51 => absurd h51 (by decide)) (fun h51 => ?_)
    refine lv_aload_n hx hb d_M_commitLeaf_54 rfl (lv_at hl 2 rfl) ?_
    refine lv_iload_n hx hb d_M_commitLeaf_55 rfl (lv_at hl 3 rfl) ?_
    refine lv_iload hx hb d_M_commitLeaf_56 (lv_at hl 0 rfl) ?_
    refine zz_cV (index := 138) (n := 2) (As := [.int (nI n), .int 0]) (rest := []) ⟨hx, hb, hml, hown, hts⟩ (k_isPairM l D ca am (zs (zs (zs (zs ar 0 5 d0) 20 n x0) 15 n c0) 16 n x0) n 0 (by omega) (by decide) hl2 hbs) mk_M_138 mo_M_isPair me_M_M_isPair_M mi_M mc_M_isPair (by decide +kernel) ⟨rfl, rfl⟩ ⟨by decide, by decide⟩ (mm_pre hK hP) rfl hl.1 rfl (Nat.le_of_ble_eq_true rfl) d_M_commitLeaf_58 ⟨Nat.zero_le _, Nat.zero_le _⟩ ?_
    refine lv_if_eq (tgt := 132) hx hb d_M_commitLeaf_61 rfl (fun h61 => ?_) (fun h61 => ?_)
    · skip
      have hp0 : ¬ 0 < ar 11 (2 * n + 0) := pairB_f hn (zb_eq (b := pairB ar n 0) h61)
      refine lv_iinc (k := 0) (v := nI (0 + 1)) (lv' := [(5, .int (nI (0 + 1))), (4, .int (nI x0)), (0, .ref (am 0)), (1, .int (nI n)), (2, .int (zb false)), (3, .int (nI c0))]) hx hb d_M_commitLeaf_132 hl rfl (nI_1 _) (by decide) rfl (fun ls hl => ?_)
      refine lv_goto (tgt := 48) hx hb d_M_commitLeaf_135 rfl ?_
      have hl : lv_has ls 7 [(5, .int 1), (4, .int (nI x0)), (0, .ref (am 0)), (1, .int (nI n)), (2, .int (zb false)), (3, .int (nI c0))] := hl
      refine lv_iload hx hb d_M_commitLeaf_48 (lv_at hl 0 rfl) ?_
      refine lv_iconst (v := 2) hx hb d_M_commitLeaf_50 rfl ?_
      refine lv_icmp_ge (tgt := 138) hx hb d_M_commitLeaf_51 rfl (fun h51 => absurd h51 (by decide)) (fun h51 => ?_)
      refine lv_aload_n hx hb d_M_commitLeaf_54 rfl (lv_at hl 2 rfl) ?_
      refine lv_iload_n hx hb d_M_commitLeaf_55 rfl (lv_at hl 3 rfl) ?_
      refine lv_iload hx hb d_M_commitLeaf_56 (lv_at hl 0 rfl) ?_
      refine zz_cV (index := 138) (n := 2) (As := [.int (nI n), .int 1]) (rest := []) ⟨hx, hb, hml, hown, hts⟩ (k_isPairM l D ca am (zs (zs (zs (zs ar 0 5 d0) 20 n x0) 15 n c0) 16 n x0) n 1 (by omega) (by decide) hl2 hbs) mk_M_138 mo_M_isPair me_M_M_isPair_M mi_M mc_M_isPair (by decide +kernel) ⟨rfl, rfl⟩ ⟨by decide, by decide⟩ (mm_pre hK hP) rfl hl.1 rfl (Nat.le_of_ble_eq_true rfl) d_M_commitLeaf_58 ⟨Nat.zero_le _, Nat.zero_le _⟩ ?_
      refine lv_if_eq (tgt := 132) hx hb d_M_commitLeaf_61 rfl (fun h61 => ?_) (fun h61 => ?_)
      · skip
        have hp1 : ¬ 0 < ar 11 (2 * n + 1) := pairB_f hn (zb_eq (b := pairB ar n 1) h61)
        refine lv_iinc (k := 0) (v := nI (1 + 1)) (lv' := [(5, .int (nI (1 + 1))), (4, .int (nI x0)), (0, .ref (am 0)), (1, .int (nI n)), (2, .int (zb false)), (3, .int (nI c0))]) hx hb d_M_commitLeaf_132 hl rfl (nI_1 _) (by decide) rfl (fun ls hl => ?_)
        refine lv_goto (tgt := 48) hx hb d_M_commitLeaf_135 rfl ?_
        have hl : lv_has ls 7 [(5, .int 2), (4, .int (nI x0)), (0, .ref (am 0)), (1, .int (nI n)), (2, .int (zb false)), (3, .int (nI c0))] := hl
        refine lv_iload hx hb d_M_commitLeaf_48 (lv_at hl 0 rfl) ?_
        refine lv_iconst (v := 2) hx hb d_M_commitLeaf_50 rfl ?_
        refine lv_icmp_ge (tgt := 138) hx hb d_M_commitLeaf_51 rfl (fun h51 => ?_) (fun h51 => absurd (by decide) h51)
        exact W.vret hx hb hr (fun t ht hW => ⟨⟨zs (zs (zs (zs ar 0 5 d0) 20 n x0) 15 n c0) 16 n x0, rfl, by simp only [cmL, cv, hd0, hx0, Nat.add_zero] at hp0 hp1 ⊢; simp only [if_neg hp0, if_neg hp1, if_true, if_false, Bool.false_eq_true], va_K.moved hW.alike hK, by rw [ht]; exact hP⟩, hS.F ht⟩) hS.2.2 d_M_commitLeaf_138
      · skip
        have hp1 : 0 < ar 11 (2 * n + 1) := (pairB_t (zb_ne (b := pairB ar n 1) h61)).2
        have hbp := hbs (2 * n + 1) (by omega)
        have hip := his (2 * n + 1) (by omega)
        refine lv_iload_n hx hb d_M_commitLeaf_64 rfl (lv_at hl 4 rfl) ?_
        refine lv_if_eq (tgt := 72) hx hb d_M_commitLeaf_65 rfl (fun h65 => ?_) (fun h65 => absurd (rfl) h65)
        refine lv_aload_n hx hb d_M_commitLeaf_72 rfl (lv_at hl 2 rfl) ?_
        refine mm_get hx hb hts hown hK hP (index := 43) 11 (by decide) mf_M_43 (v := .ref (am 12)) rfl d_M_commitLeaf_73 ?_
        refine lv_iconst (v := 2) hx hb d_M_commitLeaf_76 rfl ?_
        refine lv_iload_n hx hb d_M_commitLeaf_77 rfl (lv_at hl 3 rfl) ?_
        refine lv_imul hx hb d_M_commitLeaf_78 ?_
        refine zz_as (y := nI (2 * n)) (pk_mul 2 n) ?_
        refine lv_iload hx hb d_M_commitLeaf_79 (lv_at hl 0 rfl) ?_
        refine lv_iadd hx hb d_M_commitLeaf_81 ?_
        refine zz_as (y := nI ((2 * n) + 1)) (nI_add (2 * n) 1) ?_
        refine mm_ald hx hb hK hP 11 (by decide) rfl ((2 * n) + 1) rfl (show (2 * n) + 1 < 16 from by omega) (ar 12 ((2 * n) + 1)) (rfl) d_M_commitLeaf_82 ?_
        refine lv_sipush (v := 5003) hx hb d_M_commitLeaf_83 rfl ?_
        refine lv_iload_n hx hb d_M_commitLeaf_86 rfl (lv_at hl 5 rfl) ?_
        refine lv_isub hx hb d_M_commitLeaf_87 ?_
        refine zz_as (y := nI (5003 - c0)) (pk_sub (a := 5003) (b := c0) (by omega)) ?_
        refine lv_sipush (v := 5003) hx hb d_M_commitLeaf_88 rfl ?_
        refine lv_irem hx hb d_M_commitLeaf_91 (by decide) ?_
        refine zz_as (y := nI ((5003 - c0) % 5003)) (pk_rem (d := 5003) (by omega) (by decide) (by decide)) ?_
        refine zz_cS (index := 96) (n := 2) (As := [.int (nI (ar 12 (2 * n + 1))), .int (nI ((5003 - c0) % 5003))]) (rest := []) ⟨hx, hb, hml, hown, hts⟩ (k_raised l (ar 12 (2 * n + 1)) ((5003 - c0) % 5003) hip (Nat.lt_trans (Nat.mod_lt _ (by decide)) (by decide))) mk_M_96 ms_M_raised mi_M mc_M_raised (by decide +kernel) ⟨rfl, rfl⟩ ⟨by decide, by decide⟩ preEq rfl hl.1 rfl (Nat.le_of_ble_eq_true rfl) d_M_commitLeaf_92 ⟨Nat.zero_le _, Nat.zero_le _⟩ ?_
        refine lv_istore (lv' := [(6, .int (nI (ar 12 (2 * n + 1) ^ ((5003 - c0) % 5003) % 10007))), (5, .int 1), (4, .int (nI x0)), (0, .ref (am 0)), (1, .int (nI n)), (2, .int (zb false)), (3, .int (nI c0))]) hx hb d_M_commitLeaf_95 hl (by decide) rfl (fun ls hl => ?_)
        refine lv_aload_n hx hb d_M_commitLeaf_97 rfl (lv_at hl 3 rfl) ?_
        refine mm_get hx hb hts hown hK hP (index := 49) 13 (by decide) mf_M_49 (v := .ref (am 14)) rfl d_M_commitLeaf_98 ?_
        refine lv_iconst (v := 2) hx hb d_M_commitLeaf_101 rfl ?_
        refine lv_iload_n hx hb d_M_commitLeaf_102 rfl (lv_at hl 4 rfl) ?_
        refine lv_imul hx hb d_M_commitLeaf_103 ?_
        refine zz_as (y := nI (2 * n)) (pk_mul 2 n) ?_
        refine lv_iload hx hb d_M_commitLeaf_104 (lv_at hl 1 rfl) ?_
        refine lv_iadd hx hb d_M_commitLeaf_106 ?_
        refine zz_as (y := nI ((2 * n) + 1)) (nI_add (2 * n) 1) ?_
        refine lv_aload_n hx hb d_M_commitLeaf_107 rfl (lv_at hl 3 rfl) ?_
        refine mm_get hx hb hts hown hK hP (index := 40) 10 (by decide) mf_M_40 (v := .ref (am 11)) rfl d_M_commitLeaf_108 ?_
        refine lv_iconst (v := 2) hx hb d_M_commitLeaf_111 rfl ?_
        refine lv_iload_n hx hb d_M_commitLeaf_112 rfl (lv_at hl 4 rfl) ?_
        refine lv_imul hx hb d_M_commitLeaf_113 ?_
        refine zz_as (y := nI (2 * n)) (pk_mul 2 n) ?_
        refine lv_iload hx hb d_M_commitLeaf_114 (lv_at hl 1 rfl) ?_
        refine lv_iadd hx hb d_M_commitLeaf_116 ?_
        refine zz_as (y := nI ((2 * n) + 1)) (nI_add (2 * n) 1) ?_
        refine mm_ald hx hb hK hP 10 (by decide) rfl ((2 * n) + 1) rfl (show (2 * n) + 1 < 16 from by omega) (ar 11 ((2 * n) + 1)) (rfl) d_M_commitLeaf_117 ?_
        refine lv_iload hx hb d_M_commitLeaf_118 (lv_at hl 2 rfl) ?_
        refine zz_cS (index := 96) (n := 2) (As := [.int (nI (ar 11 (2 * n + 1))), .int (nI x0)]) (rest := [.int (nI ((2 * n) + 1)), .ref (am 14)]) ⟨hx, hb, hml, hown, hts⟩ (k_raised l (ar 11 (2 * n + 1)) x0 hbp (by omega)) mk_M_96 ms_M_raised mi_M mc_M_raised (by decide +kernel) ⟨rfl, rfl⟩ ⟨by decide, by decide⟩ preEq rfl hl.1 rfl (Nat.le_of_ble_eq_true rfl) d_M_commitLeaf_120 ⟨Nat.zero_le _, Nat.zero_le _⟩ ?_
        refine lv_iload hx hb d_M_commitLeaf_123 (lv_at hl 0 rfl) ?_
        refine lv_sipush (v := 10007) hx hb d_M_commitLeaf_125 rfl ?_
        refine zz_cS (index := 92) (n := 3) (As := [.int (nI (ar 11 (2 * n + 1) ^ x0 % 10007)), .int (nI (ar 12 (2 * n + 1) ^ ((5003 - c0) % 5003) % 10007)), .int 10007]) (rest := [.int (nI ((2 * n) + 1)), .ref (am 14)]) ⟨hx, hb, hml, hown, hts⟩ (k_times l (ar 11 (2 * n + 1) ^ x0 % 10007) (ar 12 (2 * n + 1) ^ ((5003 - c0) % 5003) % 10007) 10007 (Nat.lt_trans (Nat.mod_lt _ (by decide)) (by decide)) (Nat.lt_trans (Nat.mod_lt _ (by decide)) (by decide)) (by decide) (by decide)) mk_M_92 ms_M_times mi_M mc_M_times (by decide +kernel) ⟨rfl, rfl⟩ ⟨by decide, by decide⟩ preEq rfl hl.1 rfl (Nat.le_of_ble_eq_true rfl) d_M_commitLeaf_128 ⟨Nat.zero_le _, Nat.zero_le _⟩ ?_
        obtain ⟨v1, hv1⟩ : ∃ v, (ar 11 (2 * n + 1) ^ x0 % 10007) * (ar 12 (2 * n + 1) ^ ((5003 - c0) % 5003) % 10007) % 10007 = v := ⟨_, rfl⟩
        refine zz_as (y := nI v1) (congrArg nI hv1) ?_
        refine mm_ast hx hb hK hP hD hS 13 (by decide) rfl ((2 * n) + 1) rfl (show (2 * n) + 1 < 16 from by omega) (v1) (rfl) d_M_commitLeaf_131 (fun H locs hP hS => ?_)
        refine lv_iinc (k := 1) (v := nI (1 + 1)) (lv' := [(5, .int (nI (1 + 1))), (6, .int (nI (ar 12 (2 * n + 1) ^ ((5003 - c0) % 5003) % 10007))), (4, .int (nI x0)), (0, .ref (am 0)), (1, .int (nI n)), (2, .int (zb false)), (3, .int (nI c0))]) hx hb d_M_commitLeaf_132 hl rfl (nI_1 _) (by decide) rfl (fun ls hl => ?_)
        refine lv_goto (tgt := 48) hx hb d_M_commitLeaf_135 rfl ?_
        have hl : lv_has ls 7 [(5, .int 2), (6, .int (nI (ar 12 (2 * n + 1) ^ ((5003 - c0) % 5003) % 10007))), (4, .int (nI x0)), (0, .ref (am 0)), (1, .int (nI n)), (2, .int (zb false)), (3, .int (nI c0))] := hl
        refine lv_iload hx hb d_M_commitLeaf_48 (lv_at hl 0 rfl) ?_
        refine lv_iconst (v := 2) hx hb d_M_commitLeaf_50 rfl ?_
        refine lv_icmp_ge (tgt := 138) hx hb d_M_commitLeaf_51 rfl (fun h51 => ?_) (fun h51 => absurd (by decide) h51)
        exact W.vret hx hb hr (fun t ht hW => ⟨⟨zs (zs (zs (zs (zs ar 0 5 d0) 20 n x0) 15 n c0) 16 n x0) 14 ((2 * n) + 1) v1, rfl, by rw [← hv1]; simp only [cmL, cv, hd0, hx0, Nat.add_zero] at hp0 hp1 ⊢; simp only [if_neg hp0, if_pos hp1, if_true, if_false, Bool.false_eq_true], va_K.moved hW.alike hK, by rw [ht]; exact hP⟩, hS.F ht⟩) hS.2.2 d_M_commitLeaf_138
    · skip
      have hp0 : 0 < ar 11 (2 * n + 0) := (pairB_t (zb_ne (b := pairB ar n 0) h61)).2
      have hbp := hbs (2 * n + 0) (by omega)
      have hip := his (2 * n + 0) (by omega)
      refine lv_iload_n hx hb d_M_commitLeaf_64 rfl (lv_at hl 4 rfl) ?_
      refine lv_if_eq (tgt := 72) hx hb d_M_commitLeaf_65 rfl (fun h65 => ?_) (fun h65 => absurd (rfl) h65)
      refine lv_aload_n hx hb d_M_commitLeaf_72 rfl (lv_at hl 2 rfl) ?_
      refine mm_get hx hb hts hown hK hP (index := 43) 11 (by decide) mf_M_43 (v := .ref (am 12)) rfl d_M_commitLeaf_73 ?_
      refine lv_iconst (v := 2) hx hb d_M_commitLeaf_76 rfl ?_
      refine lv_iload_n hx hb d_M_commitLeaf_77 rfl (lv_at hl 3 rfl) ?_
      refine lv_imul hx hb d_M_commitLeaf_78 ?_
      refine zz_as (y := nI (2 * n)) (pk_mul 2 n) ?_
      refine lv_iload hx hb d_M_commitLeaf_79 (lv_at hl 0 rfl) ?_
      refine lv_iadd hx hb d_M_commitLeaf_81 ?_
      refine zz_as (y := nI ((2 * n) + 0)) (nI_add (2 * n) 0) ?_
      refine mm_ald hx hb hK hP 11 (by decide) rfl ((2 * n) + 0) rfl (show (2 * n) + 0 < 16 from by omega) (ar 12 ((2 * n) + 0)) (rfl) d_M_commitLeaf_82 ?_
      refine lv_sipush (v := 5003) hx hb d_M_commitLeaf_83 rfl ?_
      refine lv_iload_n hx hb d_M_commitLeaf_86 rfl (lv_at hl 5 rfl) ?_
      refine lv_isub hx hb d_M_commitLeaf_87 ?_
      refine zz_as (y := nI (5003 - c0)) (pk_sub (a := 5003) (b := c0) (by omega)) ?_
      refine lv_sipush (v := 5003) hx hb d_M_commitLeaf_88 rfl ?_
      refine lv_irem hx hb d_M_commitLeaf_91 (by decide) ?_
      refine zz_as (y := nI ((5003 - c0) % 5003)) (pk_rem (d := 5003) (by omega) (by decide) (by decide)) ?_
      refine zz_cS (index := 96) (n := 2) (As := [.int (nI (ar 12 (2 * n + 0))), .int (nI ((5003 - c0) % 5003))]) (rest := []) ⟨hx, hb, hml, hown, hts⟩ (k_raised l (ar 12 (2 * n + 0)) ((5003 - c0) % 5003) hip (Nat.lt_trans (Nat.mod_lt _ (by decide)) (by decide))) mk_M_96 ms_M_raised mi_M mc_M_raised (by decide +kernel) ⟨rfl, rfl⟩ ⟨by decide, by decide⟩ preEq rfl hl.1 rfl (Nat.le_of_ble_eq_true rfl) d_M_commitLeaf_92 ⟨Nat.zero_le _, Nat.zero_le _⟩ ?_
      refine lv_istore (lv' := [(6, .int (nI (ar 12 (2 * n + 0) ^ ((5003 - c0) % 5003) % 10007))), (5, .int 0), (4, .int (nI x0)), (0, .ref (am 0)), (1, .int (nI n)), (2, .int (zb false)), (3, .int (nI c0))]) hx hb d_M_commitLeaf_95 hl (by decide) rfl (fun ls hl => ?_)
      refine lv_aload_n hx hb d_M_commitLeaf_97 rfl (lv_at hl 3 rfl) ?_
      refine mm_get hx hb hts hown hK hP (index := 49) 13 (by decide) mf_M_49 (v := .ref (am 14)) rfl d_M_commitLeaf_98 ?_
      refine lv_iconst (v := 2) hx hb d_M_commitLeaf_101 rfl ?_
      refine lv_iload_n hx hb d_M_commitLeaf_102 rfl (lv_at hl 4 rfl) ?_
      refine lv_imul hx hb d_M_commitLeaf_103 ?_
      refine zz_as (y := nI (2 * n)) (pk_mul 2 n) ?_
      refine lv_iload hx hb d_M_commitLeaf_104 (lv_at hl 1 rfl) ?_
      refine lv_iadd hx hb d_M_commitLeaf_106 ?_
      refine zz_as (y := nI ((2 * n) + 0)) (nI_add (2 * n) 0) ?_
      refine lv_aload_n hx hb d_M_commitLeaf_107 rfl (lv_at hl 3 rfl) ?_
      refine mm_get hx hb hts hown hK hP (index := 40) 10 (by decide) mf_M_40 (v := .ref (am 11)) rfl d_M_commitLeaf_108 ?_
      refine lv_iconst (v := 2) hx hb d_M_commitLeaf_111 rfl ?_
      refine lv_iload_n hx hb d_M_commitLeaf_112 rfl (lv_at hl 4 rfl) ?_
      refine lv_imul hx hb d_M_commitLeaf_113 ?_
      refine zz_as (y := nI (2 * n)) (pk_mul 2 n) ?_
      refine lv_iload hx hb d_M_commitLeaf_114 (lv_at hl 1 rfl) ?_
      refine lv_iadd hx hb d_M_commitLeaf_116 ?_
      refine zz_as (y := nI ((2 * n) + 0)) (nI_add (2 * n) 0) ?_
      refine mm_ald hx hb hK hP 10 (by decide) rfl ((2 * n) + 0) rfl (show (2 * n) + 0 < 16 from by omega) (ar 11 ((2 * n) + 0)) (rfl) d_M_commitLeaf_117 ?_
      refine lv_iload hx hb d_M_commitLeaf_118 (lv_at hl 2 rfl) ?_
      refine zz_cS (index := 96) (n := 2) (As := [.int (nI (ar 11 (2 * n + 0))), .int (nI x0)]) (rest := [.int (nI ((2 * n) + 0)), .ref (am 14)]) ⟨hx, hb, hml, hown, hts⟩ (k_raised l (ar 11 (2 * n + 0)) x0 hbp (by omega)) mk_M_96 ms_M_raised mi_M mc_M_raised (by decide +kernel) ⟨rfl, rfl⟩ ⟨by decide, by decide⟩ preEq rfl hl.1 rfl (Nat.le_of_ble_eq_true rfl) d_M_commitLeaf_120 ⟨Nat.zero_le _, Nat.zero_le _⟩ ?_
      refine lv_iload hx hb d_M_commitLeaf_123 (lv_at hl 0 rfl) ?_
      refine lv_sipush (v := 10007) hx hb d_M_commitLeaf_125 rfl ?_
      refine zz_cS (index := 92) (n := 3) (As := [.int (nI (ar 11 (2 * n + 0) ^ x0 % 10007)), .int (nI (ar 12 (2 * n + 0) ^ ((5003 - c0) % 5003) % 10007)), .int 10007]) (rest := [.int (nI ((2 * n) + 0)), .ref (am 14)]) ⟨hx, hb, hml, hown, hts⟩ (k_times l (ar 11 (2 * n + 0) ^ x0 % 10007) (ar 12 (2 * n + 0) ^ ((5003 - c0) % 5003) % 10007) 10007 (Nat.lt_trans (Nat.mod_lt _ (by decide)) (by decide)) (Nat.lt_trans (Nat.mod_lt _ (by decide)) (by decide)) (by decide) (by decide)) mk_M_92 ms_M_times mi_M mc_M_times (by decide +kernel) ⟨rfl, rfl⟩ ⟨by decide, by decide⟩ preEq rfl hl.1 rfl (Nat.le_of_ble_eq_true rfl) d_M_commitLeaf_128 ⟨Nat.zero_le _, Nat.zero_le _⟩ ?_
      obtain ⟨v0, hv0⟩ : ∃ v, (ar 11 (2 * n + 0) ^ x0 % 10007) * (ar 12 (2 * n + 0) ^ ((5003 - c0) % 5003) % 10007) % 10007 = v := ⟨_, rfl⟩
      refine zz_as (y := nI v0) (congrArg nI hv0) ?_
      refine mm_ast hx hb hK hP hD hS 13 (by decide) rfl ((2 * n) + 0) rfl (show (2 * n) + 0 < 16 from by omega) (v0) (rfl) d_M_commitLeaf_131 (fun H locs hP hS => ?_)
      refine lv_iinc (k := 1) (v := nI (0 + 1)) (lv' := [(5, .int (nI (0 + 1))), (6, .int (nI (ar 12 (2 * n + 0) ^ ((5003 - c0) % 5003) % 10007))), (4, .int (nI x0)), (0, .ref (am 0)), (1, .int (nI n)), (2, .int (zb false)), (3, .int (nI c0))]) hx hb d_M_commitLeaf_132 hl rfl (nI_1 _) (by decide) rfl (fun ls hl => ?_)
      refine lv_goto (tgt := 48) hx hb d_M_commitLeaf_135 rfl ?_
      have hl : lv_has ls 7 [(5, .int 1), (6, .int (nI (ar 12 (2 * n + 0) ^ ((5003 - c0) % 5003) % 10007))), (4, .int (nI x0)), (0, .ref (am 0)), (1, .int (nI n)), (2, .int (zb false)), (3, .int (nI c0))] := hl
      refine lv_iload hx hb d_M_commitLeaf_48 (lv_at hl 0 rfl) ?_
      refine lv_iconst (v := 2) hx hb d_M_commitLeaf_50 rfl ?_
      refine lv_icmp_ge (tgt := 138) hx hb d_M_commitLeaf_51 rfl (fun h51 => absurd h51 (by decide)) (fun h51 => ?_)
      refine lv_aload_n hx hb d_M_commitLeaf_54 rfl (lv_at hl 3 rfl) ?_
      refine lv_iload_n hx hb d_M_commitLeaf_55 rfl (lv_at hl 4 rfl) ?_
      refine lv_iload hx hb d_M_commitLeaf_56 (lv_at hl 0 rfl) ?_
      refine zz_cV (index := 138) (n := 2) (As := [.int (nI n), .int 1]) (rest := []) ⟨hx, hb, hml, hown, hts⟩ (k_isPairM l D ca am (zs (zs (zs (zs (zs ar 0 5 d0) 20 n x0) 15 n c0) 16 n x0) 14 ((2 * n) + 0) v0) n 1 (by omega) (by decide) hl2 hbs) mk_M_138 mo_M_isPair me_M_M_isPair_M mi_M mc_M_isPair (by decide +kernel) ⟨rfl, rfl⟩ ⟨by decide, by decide⟩ (mm_pre hK hP) rfl hl.1 rfl (Nat.le_of_ble_eq_true rfl) d_M_commitLeaf_58 ⟨Nat.zero_le _, Nat.zero_le _⟩ ?_
      refine lv_if_eq (tgt := 132) hx hb d_M_commitLeaf_61 rfl (fun h61 => ?_) (fun h61 => ?_)
      · skip
        have hp1 : ¬ 0 < ar 11 (2 * n + 1) := pairB_f hn (zb_eq (b := pairB ar n 1) h61)
        refine lv_iinc (k := 0) (v := nI (1 + 1)) (lv' := [(5, .int (nI (1 + 1))), (6, .int (nI (ar 12 (2 * n + 0) ^ ((5003 - c0) % 5003) % 10007))), (4, .int (nI x0)), (0, .ref (am 0)), (1, .int (nI n)), (2, .int (zb false)), (3, .int (nI c0))]) hx hb d_M_commitLeaf_132 hl rfl (nI_1 _) (by decide) rfl (fun ls hl => ?_)
        refine lv_goto (tgt := 48) hx hb d_M_commitLeaf_135 rfl ?_
        have hl : lv_has ls 7 [(5, .int 2), (6, .int (nI (ar 12 (2 * n + 0) ^ ((5003 - c0) % 5003) % 10007))), (4, .int (nI x0)), (0, .ref (am 0)), (1, .int (nI n)), (2, .int (zb false)), (3, .int (nI c0))] := hl
        refine lv_iload hx hb d_M_commitLeaf_48 (lv_at hl 0 rfl) ?_
        refine lv_iconst (v := 2) hx hb d_M_commitLeaf_50 rfl ?_
        refine lv_icmp_ge (tgt := 138) hx hb d_M_commitLeaf_51 rfl (fun h51 => ?_) (fun h51 => absurd (by decide) h51)
        exact W.vret hx hb hr (fun t ht hW => ⟨⟨zs (zs (zs (zs (zs ar 0 5 d0) 20 n x0) 15 n c0) 16 n x0) 14 ((2 * n) + 0) v0, rfl, by rw [← hv0]; simp only [cmL, cv, hd0, hx0, Nat.add_zero] at hp0 hp1 ⊢; simp only [if_pos hp0, if_neg hp1, if_true, if_false, Bool.false_eq_true], va_K.moved hW.alike hK, by rw [ht]; exact hP⟩, hS.F ht⟩) hS.2.2 d_M_commitLeaf_138
      · skip
        have hp1 : 0 < ar 11 (2 * n + 1) := (pairB_t (zb_ne (b := pairB ar n 1) h61)).2
        have hbp := hbs (2 * n + 1) (by omega)
        have hip := his (2 * n + 1) (by omega)
        refine lv_iload_n hx hb d_M_commitLeaf_64 rfl (lv_at hl 5 rfl) ?_
        refine lv_if_eq (tgt := 72) hx hb d_M_commitLeaf_65 rfl (fun h65 => ?_) (fun h65 => absurd (rfl) h65)
        refine lv_aload_n hx hb d_M_commitLeaf_72 rfl (lv_at hl 3 rfl) ?_
        refine mm_get hx hb hts hown hK hP (index := 43) 11 (by decide) mf_M_43 (v := .ref (am 12)) rfl d_M_commitLeaf_73 ?_
        refine lv_iconst (v := 2) hx hb d_M_commitLeaf_76 rfl ?_
        refine lv_iload_n hx hb d_M_commitLeaf_77 rfl (lv_at hl 4 rfl) ?_
        refine lv_imul hx hb d_M_commitLeaf_78 ?_
        refine zz_as (y := nI (2 * n)) (pk_mul 2 n) ?_
        refine lv_iload hx hb d_M_commitLeaf_79 (lv_at hl 0 rfl) ?_
        refine lv_iadd hx hb d_M_commitLeaf_81 ?_
        refine zz_as (y := nI ((2 * n) + 1)) (nI_add (2 * n) 1) ?_
        refine mm_ald hx hb hK hP 11 (by decide) rfl ((2 * n) + 1) rfl (show (2 * n) + 1 < 16 from by omega) (ar 12 ((2 * n) + 1)) (rfl) d_M_commitLeaf_82 ?_
        refine lv_sipush (v := 5003) hx hb d_M_commitLeaf_83 rfl ?_
        refine lv_iload_n hx hb d_M_commitLeaf_86 rfl (lv_at hl 6 rfl) ?_
        refine lv_isub hx hb d_M_commitLeaf_87 ?_
        refine zz_as (y := nI (5003 - c0)) (pk_sub (a := 5003) (b := c0) (by omega)) ?_
        refine lv_sipush (v := 5003) hx hb d_M_commitLeaf_88 rfl ?_
        refine lv_irem hx hb d_M_commitLeaf_91 (by decide) ?_
        refine zz_as (y := nI ((5003 - c0) % 5003)) (pk_rem (d := 5003) (by omega) (by decide) (by decide)) ?_
        refine zz_cS (index := 96) (n := 2) (As := [.int (nI (ar 12 (2 * n + 1))), .int (nI ((5003 - c0) % 5003))]) (rest := []) ⟨hx, hb, hml, hown, hts⟩ (k_raised l (ar 12 (2 * n + 1)) ((5003 - c0) % 5003) hip (Nat.lt_trans (Nat.mod_lt _ (by decide)) (by decide))) mk_M_96 ms_M_raised mi_M mc_M_raised (by decide +kernel) ⟨rfl, rfl⟩ ⟨by decide, by decide⟩ preEq rfl hl.1 rfl (Nat.le_of_ble_eq_true rfl) d_M_commitLeaf_92 ⟨Nat.zero_le _, Nat.zero_le _⟩ ?_
        refine lv_istore (lv' := [(6, .int (nI (ar 12 (2 * n + 1) ^ ((5003 - c0) % 5003) % 10007))), (5, .int 1), (4, .int (nI x0)), (0, .ref (am 0)), (1, .int (nI n)), (2, .int (zb false)), (3, .int (nI c0))]) hx hb d_M_commitLeaf_95 hl (by decide) rfl (fun ls hl => ?_)
        refine lv_aload_n hx hb d_M_commitLeaf_97 rfl (lv_at hl 3 rfl) ?_
        refine mm_get hx hb hts hown hK hP (index := 49) 13 (by decide) mf_M_49 (v := .ref (am 14)) rfl d_M_commitLeaf_98 ?_
        refine lv_iconst (v := 2) hx hb d_M_commitLeaf_101 rfl ?_
        refine lv_iload_n hx hb d_M_commitLeaf_102 rfl (lv_at hl 4 rfl) ?_
        refine lv_imul hx hb d_M_commitLeaf_103 ?_
        refine zz_as (y := nI (2 * n)) (pk_mul 2 n) ?_
        refine lv_iload hx hb d_M_commitLeaf_104 (lv_at hl 1 rfl) ?_
        refine lv_iadd hx hb d_M_commitLeaf_106 ?_
        refine zz_as (y := nI ((2 * n) + 1)) (nI_add (2 * n) 1) ?_
        refine lv_aload_n hx hb d_M_commitLeaf_107 rfl (lv_at hl 3 rfl) ?_
        refine mm_get hx hb hts hown hK hP (index := 40) 10 (by decide) mf_M_40 (v := .ref (am 11)) rfl d_M_commitLeaf_108 ?_
        refine lv_iconst (v := 2) hx hb d_M_commitLeaf_111 rfl ?_
        refine lv_iload_n hx hb d_M_commitLeaf_112 rfl (lv_at hl 4 rfl) ?_
        refine lv_imul hx hb d_M_commitLeaf_113 ?_
        refine zz_as (y := nI (2 * n)) (pk_mul 2 n) ?_
        refine lv_iload hx hb d_M_commitLeaf_114 (lv_at hl 1 rfl) ?_
        refine lv_iadd hx hb d_M_commitLeaf_116 ?_
        refine zz_as (y := nI ((2 * n) + 1)) (nI_add (2 * n) 1) ?_
        refine mm_ald hx hb hK hP 10 (by decide) rfl ((2 * n) + 1) rfl (show (2 * n) + 1 < 16 from by omega) (ar 11 ((2 * n) + 1)) (rfl) d_M_commitLeaf_117 ?_
        refine lv_iload hx hb d_M_commitLeaf_118 (lv_at hl 2 rfl) ?_
        refine zz_cS (index := 96) (n := 2) (As := [.int (nI (ar 11 (2 * n + 1))), .int (nI x0)]) (rest := [.int (nI ((2 * n) + 1)), .ref (am 14)]) ⟨hx, hb, hml, hown, hts⟩ (k_raised l (ar 11 (2 * n + 1)) x0 hbp (by omega)) mk_M_96 ms_M_raised mi_M mc_M_raised (by decide +kernel) ⟨rfl, rfl⟩ ⟨by decide, by decide⟩ preEq rfl hl.1 rfl (Nat.le_of_ble_eq_true rfl) d_M_commitLeaf_120 ⟨Nat.zero_le _, Nat.zero_le _⟩ ?_
        refine lv_iload hx hb d_M_commitLeaf_123 (lv_at hl 0 rfl) ?_
        refine lv_sipush (v := 10007) hx hb d_M_commitLeaf_125 rfl ?_
        refine zz_cS (index := 92) (n := 3) (As := [.int (nI (ar 11 (2 * n + 1) ^ x0 % 10007)), .int (nI (ar 12 (2 * n + 1) ^ ((5003 - c0) % 5003) % 10007)), .int 10007]) (rest := [.int (nI ((2 * n) + 1)), .ref (am 14)]) ⟨hx, hb, hml, hown, hts⟩ (k_times l (ar 11 (2 * n + 1) ^ x0 % 10007) (ar 12 (2 * n + 1) ^ ((5003 - c0) % 5003) % 10007) 10007 (Nat.lt_trans (Nat.mod_lt _ (by decide)) (by decide)) (Nat.lt_trans (Nat.mod_lt _ (by decide)) (by decide)) (by decide) (by decide)) mk_M_92 ms_M_times mi_M mc_M_times (by decide +kernel) ⟨rfl, rfl⟩ ⟨by decide, by decide⟩ preEq rfl hl.1 rfl (Nat.le_of_ble_eq_true rfl) d_M_commitLeaf_128 ⟨Nat.zero_le _, Nat.zero_le _⟩ ?_
        obtain ⟨v1, hv1⟩ : ∃ v, (ar 11 (2 * n + 1) ^ x0 % 10007) * (ar 12 (2 * n + 1) ^ ((5003 - c0) % 5003) % 10007) % 10007 = v := ⟨_, rfl⟩
        refine zz_as (y := nI v1) (congrArg nI hv1) ?_
        refine mm_ast hx hb hK hP hD hS 13 (by decide) rfl ((2 * n) + 1) rfl (show (2 * n) + 1 < 16 from by omega) (v1) (rfl) d_M_commitLeaf_131 (fun H locs hP hS => ?_)
        refine lv_iinc (k := 1) (v := nI (1 + 1)) (lv' := [(5, .int (nI (1 + 1))), (6, .int (nI (ar 12 (2 * n + 1) ^ ((5003 - c0) % 5003) % 10007))), (4, .int (nI x0)), (0, .ref (am 0)), (1, .int (nI n)), (2, .int (zb false)), (3, .int (nI c0))]) hx hb d_M_commitLeaf_132 hl rfl (nI_1 _) (by decide) rfl (fun ls hl => ?_)
        refine lv_goto (tgt := 48) hx hb d_M_commitLeaf_135 rfl ?_
        have hl : lv_has ls 7 [(5, .int 2), (6, .int (nI (ar 12 (2 * n + 1) ^ ((5003 - c0) % 5003) % 10007))), (4, .int (nI x0)), (0, .ref (am 0)), (1, .int (nI n)), (2, .int (zb false)), (3, .int (nI c0))] := hl
        refine lv_iload hx hb d_M_commitLeaf_48 (lv_at hl 0 rfl) ?_
        refine lv_iconst (v := 2) hx hb d_M_commitLeaf_50 rfl ?_
        refine lv_icmp_ge (tgt := 138) hx hb d_M_commitLeaf_51 rfl (fun h51 => ?_) (fun h51 => absurd (by decide) h51)
        exact W.vret hx hb hr (fun t ht hW => ⟨⟨zs (zs (zs (zs (zs (zs ar 0 5 d0) 20 n x0) 15 n c0) 16 n x0) 14 ((2 * n) + 0) v0) 14 ((2 * n) + 1) v1, rfl, by rw [← hv1]; rw [← hv0]; simp only [cmL, cv, hd0, hx0, Nat.add_zero] at hp0 hp1 ⊢; simp only [if_pos hp0, if_pos hp1, if_true, if_false, Bool.false_eq_true], va_K.moved hW.alike hK, by rw [ht]; exact hP⟩, hS.F ht⟩) hS.2.2 d_M_commitLeaf_138
  | true =>
    refine lv_aload_n hx hb d_M_commitLeaf_0 rfl (lv_at hl 0 rfl) ?_
    refine mm_ci (index := 148) (n := 0) (As := []) (rest := []) ⟨hx, hb, hml, hown, hts⟩ (k_drawM l D ca am (ar) hI) mk_M_148 mo_M_draw me_M_M_draw_M mi_M mc_M_draw (by decide +kernel) ⟨rfl, rfl⟩ ⟨by decide, by decide⟩ hK hP hS hAA rfl hl.1 rfl (Nat.le_of_ble_eq_true rfl) d_M_commitLeaf_1 ⟨Nat.zero_le _, Nat.zero_le _⟩ (fun r ar1 H locs hpost hP hS => ?_)
    obtain ⟨hr1, har⟩ := hpost
    obtain ⟨d0, hd0⟩ : ∃ d, dr (ar 0 5) = d := ⟨_, rfl⟩
    rw [hd0] at hr1 har
    obtain ⟨x0, hx0⟩ : ∃ x, dv d0 = x := ⟨_, rfl⟩
    have hx1 : x0 < 5003 := by rw [← hx0]; exact dv_lt _
    rw [hx0] at hr1
    subst hr1 har
    refine lv_istore (lv' := [(4, .int (nI x0)), (0, .ref (am 0)), (1, .int (nI n)), (2, .int (zb true)), (3, .int (nI c0))]) hx hb d_M_commitLeaf_4 hl (by decide) rfl (fun ls hl => ?_)
    refine lv_aload_n hx hb d_M_commitLeaf_6 rfl (lv_at hl 1 rfl) ?_
    refine mm_get hx hb hts hown hK hP (index := 67) 19 (by decide) mf_M_67 (v := .ref (am 20)) rfl d_M_commitLeaf_7 ?_
    refine lv_iload_n hx hb d_M_commitLeaf_10 rfl (lv_at hl 2 rfl) ?_
    refine lv_iload hx hb d_M_commitLeaf_11 (lv_at hl 0 rfl) ?_
    refine mm_ast hx hb hK hP hD hS 19 (by decide) rfl (n) rfl (show n < 8 from by omega) (x0) (rfl) d_M_commitLeaf_13 (fun H locs hP hS => ?_)
    refine lv_aload_n hx hb d_M_commitLeaf_14 rfl (lv_at hl 1 rfl) ?_
    refine mm_get hx hb hts hown hK hP (index := 52) 14 (by decide) mf_M_52 (v := .ref (am 15)) rfl d_M_commitLeaf_15 ?_
    refine lv_iload_n hx hb d_M_commitLeaf_18 rfl (lv_at hl 2 rfl) ?_
    refine lv_iload_n hx hb d_M_commitLeaf_19 rfl (lv_at hl 3 rfl) ?_
    refine lv_if_eq (tgt := 27) hx hb d_M_commitLeaf_20 rfl (fun h20 => absurd h20 (by decide)) (fun h20 => ?_)
    refine lv_iconst (v := 0) hx hb d_M_commitLeaf_23 rfl ?_
    refine lv_goto (tgt := 28) hx hb d_M_commitLeaf_24 rfl ?_
    refine mm_ast hx hb hK hP hD hS 14 (by decide) rfl (n) rfl (show n < 8 from by omega) (0) (rfl) d_M_commitLeaf_28 (fun H locs hP hS => ?_)
    refine lv_aload_n hx hb d_M_commitLeaf_29 rfl (lv_at hl 1 rfl) ?_
    refine mm_get hx hb hts hown hK hP (index := 55) 15 (by decide) mf_M_55 (v := .ref (am 16)) rfl d_M_commitLeaf_30 ?_
    refine lv_iload_n hx hb d_M_commitLeaf_33 rfl (lv_at hl 2 rfl) ?_
    refine lv_iload_n hx hb d_M_commitLeaf_34 rfl (lv_at hl 3 rfl) ?_
    refine lv_if_eq (tgt := 42) hx hb d_M_commitLeaf_35 rfl (fun h35 => absurd h35 (by decide)) (fun h35 => ?_)
    refine lv_iconst (v := 0) hx hb d_M_commitLeaf_38 rfl ?_
    refine lv_goto (tgt := 44) hx hb d_M_commitLeaf_39 rfl ?_
    refine mm_ast hx hb hK hP hD hS 15 (by decide) rfl (n) rfl (show n < 8 from by omega) (0) (rfl) d_M_commitLeaf_44 (fun H locs hP hS => ?_)
    refine lv_iconst (v := 0) hx hb d_M_commitLeaf_45 rfl ?_
    refine lv_istore (lv' := [(5, .int 0), (4, .int (nI x0)), (0, .ref (am 0)), (1, .int (nI n)), (2, .int (zb true)), (3, .int (nI c0))]) hx hb d_M_commitLeaf_46 hl (by decide) rfl (fun ls hl => ?_)
    have hl : lv_has ls 7 [(5, .int 0), (4, .int (nI x0)), (0, .ref (am 0)), (1, .int (nI n)), (2, .int (zb true)), (3, .int (nI c0))] := hl
    refine lv_iload hx hb d_M_commitLeaf_48 (lv_at hl 0 rfl) ?_
    refine lv_iconst (v := 2) hx hb d_M_commitLeaf_50 rfl ?_
    refine lv_icmp_ge (tgt := 138) hx hb d_M_commitLeaf_51 rfl (fun h51 => absurd h51 (by decide)) (fun h51 => ?_)
    refine lv_aload_n hx hb d_M_commitLeaf_54 rfl (lv_at hl 2 rfl) ?_
    refine lv_iload_n hx hb d_M_commitLeaf_55 rfl (lv_at hl 3 rfl) ?_
    refine lv_iload hx hb d_M_commitLeaf_56 (lv_at hl 0 rfl) ?_
    refine zz_cV (index := 138) (n := 2) (As := [.int (nI n), .int 0]) (rest := []) ⟨hx, hb, hml, hown, hts⟩ (k_isPairM l D ca am (zs (zs (zs (zs ar 0 5 d0) 20 n x0) 15 n 0) 16 n 0) n 0 (by omega) (by decide) hl2 hbs) mk_M_138 mo_M_isPair me_M_M_isPair_M mi_M mc_M_isPair (by decide +kernel) ⟨rfl, rfl⟩ ⟨by decide, by decide⟩ (mm_pre hK hP) rfl hl.1 rfl (Nat.le_of_ble_eq_true rfl) d_M_commitLeaf_58 ⟨Nat.zero_le _, Nat.zero_le _⟩ ?_
    refine lv_if_eq (tgt := 132) hx hb d_M_commitLeaf_61 rfl (fun h61 => ?_) (fun h61 => ?_)
    · skip
      have hp0 : ¬ 0 < ar 11 (2 * n + 0) := pairB_f hn (zb_eq (b := pairB ar n 0) h61)
      refine lv_iinc (k := 0) (v := nI (0 + 1)) (lv' := [(5, .int (nI (0 + 1))), (4, .int (nI x0)), (0, .ref (am 0)), (1, .int (nI n)), (2, .int (zb true)), (3, .int (nI c0))]) hx hb d_M_commitLeaf_132 hl rfl (nI_1 _) (by decide) rfl (fun ls hl => ?_)
      refine lv_goto (tgt := 48) hx hb d_M_commitLeaf_135 rfl ?_
      have hl : lv_has ls 7 [(5, .int 1), (4, .int (nI x0)), (0, .ref (am 0)), (1, .int (nI n)), (2, .int (zb true)), (3, .int (nI c0))] := hl
      refine lv_iload hx hb d_M_commitLeaf_48 (lv_at hl 0 rfl) ?_
      refine lv_iconst (v := 2) hx hb d_M_commitLeaf_50 rfl ?_
      refine lv_icmp_ge (tgt := 138) hx hb d_M_commitLeaf_51 rfl (fun h51 => absurd h51 (by decide)) (fun h51 => ?_)
      refine lv_aload_n hx hb d_M_commitLeaf_54 rfl (lv_at hl 2 rfl) ?_
      refine lv_iload_n hx hb d_M_commitLeaf_55 rfl (lv_at hl 3 rfl) ?_
      refine lv_iload hx hb d_M_commitLeaf_56 (lv_at hl 0 rfl) ?_
      refine zz_cV (index := 138) (n := 2) (As := [.int (nI n), .int 1]) (rest := []) ⟨hx, hb, hml, hown, hts⟩ (k_isPairM l D ca am (zs (zs (zs (zs ar 0 5 d0) 20 n x0) 15 n 0) 16 n 0) n 1 (by omega) (by decide) hl2 hbs) mk_M_138 mo_M_isPair me_M_M_isPair_M mi_M mc_M_isPair (by decide +kernel) ⟨rfl, rfl⟩ ⟨by decide, by decide⟩ (mm_pre hK hP) rfl hl.1 rfl (Nat.le_of_ble_eq_true rfl) d_M_commitLeaf_58 ⟨Nat.zero_le _, Nat.zero_le _⟩ ?_
      refine lv_if_eq (tgt := 132) hx hb d_M_commitLeaf_61 rfl (fun h61 => ?_) (fun h61 => ?_)
      · skip
        have hp1 : ¬ 0 < ar 11 (2 * n + 1) := pairB_f hn (zb_eq (b := pairB ar n 1) h61)
        refine lv_iinc (k := 0) (v := nI (1 + 1)) (lv' := [(5, .int (nI (1 + 1))), (4, .int (nI x0)), (0, .ref (am 0)), (1, .int (nI n)), (2, .int (zb true)), (3, .int (nI c0))]) hx hb d_M_commitLeaf_132 hl rfl (nI_1 _) (by decide) rfl (fun ls hl => ?_)
        refine lv_goto (tgt := 48) hx hb d_M_commitLeaf_135 rfl ?_
        have hl : lv_has ls 7 [(5, .int 2), (4, .int (nI x0)), (0, .ref (am 0)), (1, .int (nI n)), (2, .int (zb true)), (3, .int (nI c0))] := hl
        refine lv_iload hx hb d_M_commitLeaf_48 (lv_at hl 0 rfl) ?_
        refine lv_iconst (v := 2) hx hb d_M_commitLeaf_50 rfl ?_
        refine lv_icmp_ge (tgt := 138) hx hb d_M_commitLeaf_51 rfl (fun h51 => ?_) (fun h51 => absurd (by decide) h51)
        exact W.vret hx hb hr (fun t ht hW => ⟨⟨zs (zs (zs (zs ar 0 5 d0) 20 n x0) 15 n 0) 16 n 0, rfl, by simp only [cmL, cv, hd0, hx0, Nat.add_zero] at hp0 hp1 ⊢; simp only [if_neg hp0, if_neg hp1, if_true, if_false, Bool.false_eq_true], va_K.moved hW.alike hK, by rw [ht]; exact hP⟩, hS.F ht⟩) hS.2.2 d_M_commitLeaf_138
      · skip
        have hp1 : 0 < ar 11 (2 * n + 1) := (pairB_t (zb_ne (b := pairB ar n 1) h61)).2
        have hbp := hbs (2 * n + 1) (by omega)
        have hip := his (2 * n + 1) (by omega)
        refine lv_iload_n hx hb d_M_commitLeaf_64 rfl (lv_at hl 4 rfl) ?_
        refine lv_if_eq (tgt := 72) hx hb d_M_commitLeaf_65 rfl (fun h65 => absurd h65 (by decide)) (fun h65 => ?_)
        refine lv_iconst (v := 1) hx hb d_M_commitLeaf_68 rfl ?_
        refine lv_goto (tgt := 95) hx hb d_M_commitLeaf_69 rfl ?_
        refine lv_istore (lv' := [(6, .int 1), (5, .int 1), (4, .int (nI x0)), (0, .ref (am 0)), (1, .int (nI n)), (2, .int (zb true)), (3, .int (nI c0))]) hx hb d_M_commitLeaf_95 hl (by decide) rfl (fun ls hl => ?_)
        refine lv_aload_n hx hb d_M_commitLeaf_97 rfl (lv_at hl 3 rfl) ?_
        refine mm_get hx hb hts hown hK hP (index := 49) 13 (by decide) mf_M_49 (v := .ref (am 14)) rfl d_M_commitLeaf_98 ?_
        refine lv_iconst (v := 2) hx hb d_M_commitLeaf_101 rfl ?_
        refine lv_iload_n hx hb d_M_commitLeaf_102 rfl (lv_at hl 4 rfl) ?_
        refine lv_imul hx hb d_M_commitLeaf_103 ?_
        refine zz_as (y := nI (2 * n)) (pk_mul 2 n) ?_
        refine lv_iload hx hb d_M_commitLeaf_104 (lv_at hl 1 rfl) ?_
        refine lv_iadd hx hb d_M_commitLeaf_106 ?_
        refine zz_as (y := nI ((2 * n) + 1)) (nI_add (2 * n) 1) ?_
        refine lv_aload_n hx hb d_M_commitLeaf_107 rfl (lv_at hl 3 rfl) ?_
        refine mm_get hx hb hts hown hK hP (index := 40) 10 (by decide) mf_M_40 (v := .ref (am 11)) rfl d_M_commitLeaf_108 ?_
        refine lv_iconst (v := 2) hx hb d_M_commitLeaf_111 rfl ?_
        refine lv_iload_n hx hb d_M_commitLeaf_112 rfl (lv_at hl 4 rfl) ?_
        refine lv_imul hx hb d_M_commitLeaf_113 ?_
        refine zz_as (y := nI (2 * n)) (pk_mul 2 n) ?_
        refine lv_iload hx hb d_M_commitLeaf_114 (lv_at hl 1 rfl) ?_
        refine lv_iadd hx hb d_M_commitLeaf_116 ?_
        refine zz_as (y := nI ((2 * n) + 1)) (nI_add (2 * n) 1) ?_
        refine mm_ald hx hb hK hP 10 (by decide) rfl ((2 * n) + 1) rfl (show (2 * n) + 1 < 16 from by omega) (ar 11 ((2 * n) + 1)) (rfl) d_M_commitLeaf_117 ?_
        refine lv_iload hx hb d_M_commitLeaf_118 (lv_at hl 2 rfl) ?_
        refine zz_cS (index := 96) (n := 2) (As := [.int (nI (ar 11 (2 * n + 1))), .int (nI x0)]) (rest := [.int (nI ((2 * n) + 1)), .ref (am 14)]) ⟨hx, hb, hml, hown, hts⟩ (k_raised l (ar 11 (2 * n + 1)) x0 hbp (by omega)) mk_M_96 ms_M_raised mi_M mc_M_raised (by decide +kernel) ⟨rfl, rfl⟩ ⟨by decide, by decide⟩ preEq rfl hl.1 rfl (Nat.le_of_ble_eq_true rfl) d_M_commitLeaf_120 ⟨Nat.zero_le _, Nat.zero_le _⟩ ?_
        refine lv_iload hx hb d_M_commitLeaf_123 (lv_at hl 0 rfl) ?_
        refine lv_sipush (v := 10007) hx hb d_M_commitLeaf_125 rfl ?_
        refine zz_cS (index := 92) (n := 3) (As := [.int (nI (ar 11 (2 * n + 1) ^ x0 % 10007)), .int 1, .int 10007]) (rest := [.int (nI ((2 * n) + 1)), .ref (am 14)]) ⟨hx, hb, hml, hown, hts⟩ (k_times l (ar 11 (2 * n + 1) ^ x0 % 10007) (1) 10007 (Nat.lt_trans (Nat.mod_lt _ (by decide)) (by decide)) (by decide) (by decide) (by decide)) mk_M_92 ms_M_times mi_M mc_M_times (by decide +kernel) ⟨rfl, rfl⟩ ⟨by decide, by decide⟩ preEq rfl hl.1 rfl (Nat.le_of_ble_eq_true rfl) d_M_commitLeaf_128 ⟨Nat.zero_le _, Nat.zero_le _⟩ ?_
        obtain ⟨v1, hv1⟩ : ∃ v, (ar 11 (2 * n + 1) ^ x0 % 10007) * 1 % 10007 = v := ⟨_, rfl⟩
        refine zz_as (y := nI v1) (congrArg nI hv1) ?_
        refine mm_ast hx hb hK hP hD hS 13 (by decide) rfl ((2 * n) + 1) rfl (show (2 * n) + 1 < 16 from by omega) (v1) (rfl) d_M_commitLeaf_131 (fun H locs hP hS => ?_)
        refine lv_iinc (k := 1) (v := nI (1 + 1)) (lv' := [(5, .int (nI (1 + 1))), (6, .int 1), (4, .int (nI x0)), (0, .ref (am 0)), (1, .int (nI n)), (2, .int (zb true)), (3, .int (nI c0))]) hx hb d_M_commitLeaf_132 hl rfl (nI_1 _) (by decide) rfl (fun ls hl => ?_)
        refine lv_goto (tgt := 48) hx hb d_M_commitLeaf_135 rfl ?_
        have hl : lv_has ls 7 [(5, .int 2), (6, .int 1), (4, .int (nI x0)), (0, .ref (am 0)), (1, .int (nI n)), (2, .int (zb true)), (3, .int (nI c0))] := hl
        refine lv_iload hx hb d_M_commitLeaf_48 (lv_at hl 0 rfl) ?_
        refine lv_iconst (v := 2) hx hb d_M_commitLeaf_50 rfl ?_
        refine lv_icmp_ge (tgt := 138) hx hb d_M_commitLeaf_51 rfl (fun h51 => ?_) (fun h51 => absurd (by decide) h51)
        exact W.vret hx hb hr (fun t ht hW => ⟨⟨zs (zs (zs (zs (zs ar 0 5 d0) 20 n x0) 15 n 0) 16 n 0) 14 ((2 * n) + 1) v1, rfl, by rw [← hv1]; simp only [cmL, cv, hd0, hx0, Nat.add_zero] at hp0 hp1 ⊢; simp only [if_neg hp0, if_pos hp1, if_true, if_false, Bool.false_eq_true], va_K.moved hW.alike hK, by rw [ht]; exact hP⟩, hS.F ht⟩) hS.2.2 d_M_commitLeaf_138
    · skip
      have hp0 : 0 < ar 11 (2 * n + 0) := (pairB_t (zb_ne (b := pairB ar n 0) h61)).2
      have hbp := hbs (2 * n + 0) (by omega)
      have hip := his (2 * n + 0) (by omega)
      refine lv_iload_n hx hb d_M_commitLeaf_64 rfl (lv_at hl 4 rfl) ?_
      refine lv_if_eq (tgt := 72) hx hb d_M_commitLeaf_65 rfl (fun h65 => absurd h65 (by decide)) (fun h65 => ?_)
      refine lv_iconst (v := 1) hx hb d_M_commitLeaf_68 rfl ?_
      refine lv_goto (tgt := 95) hx hb d_M_commitLeaf_69 rfl ?_
      refine lv_istore (lv' := [(6, .int 1), (5, .int 0), (4, .int (nI x0)), (0, .ref (am 0)), (1, .int (nI n)), (2, .int (zb true)), (3, .int (nI c0))]) hx hb d_M_commitLeaf_95 hl (by decide) rfl (fun ls hl => ?_)
      refine lv_aload_n hx hb d_M_commitLeaf_97 rfl (lv_at hl 3 rfl) ?_
      refine mm_get hx hb hts hown hK hP (index := 49) 13 (by decide) mf_M_49 (v := .ref (am 14)) rfl d_M_commitLeaf_98 ?_
      refine lv_iconst (v := 2) hx hb d_M_commitLeaf_101 rfl ?_
      refine lv_iload_n hx hb d_M_commitLeaf_102 rfl (lv_at hl 4 rfl) ?_
      refine lv_imul hx hb d_M_commitLeaf_103 ?_
      refine zz_as (y := nI (2 * n)) (pk_mul 2 n) ?_
      refine lv_iload hx hb d_M_commitLeaf_104 (lv_at hl 1 rfl) ?_
      refine lv_iadd hx hb d_M_commitLeaf_106 ?_
      refine zz_as (y := nI ((2 * n) + 0)) (nI_add (2 * n) 0) ?_
      refine lv_aload_n hx hb d_M_commitLeaf_107 rfl (lv_at hl 3 rfl) ?_
      refine mm_get hx hb hts hown hK hP (index := 40) 10 (by decide) mf_M_40 (v := .ref (am 11)) rfl d_M_commitLeaf_108 ?_
      refine lv_iconst (v := 2) hx hb d_M_commitLeaf_111 rfl ?_
      refine lv_iload_n hx hb d_M_commitLeaf_112 rfl (lv_at hl 4 rfl) ?_
      refine lv_imul hx hb d_M_commitLeaf_113 ?_
      refine zz_as (y := nI (2 * n)) (pk_mul 2 n) ?_
      refine lv_iload hx hb d_M_commitLeaf_114 (lv_at hl 1 rfl) ?_
      refine lv_iadd hx hb d_M_commitLeaf_116 ?_
      refine zz_as (y := nI ((2 * n) + 0)) (nI_add (2 * n) 0) ?_
      refine mm_ald hx hb hK hP 10 (by decide) rfl ((2 * n) + 0) rfl (show (2 * n) + 0 < 16 from by omega) (ar 11 ((2 * n) + 0)) (rfl) d_M_commitLeaf_117 ?_
      refine lv_iload hx hb d_M_commitLeaf_118 (lv_at hl 2 rfl) ?_
      refine zz_cS (index := 96) (n := 2) (As := [.int (nI (ar 11 (2 * n + 0))), .int (nI x0)]) (rest := [.int (nI ((2 * n) + 0)), .ref (am 14)]) ⟨hx, hb, hml, hown, hts⟩ (k_raised l (ar 11 (2 * n + 0)) x0 hbp (by omega)) mk_M_96 ms_M_raised mi_M mc_M_raised (by decide +kernel) ⟨rfl, rfl⟩ ⟨by decide, by decide⟩ preEq rfl hl.1 rfl (Nat.le_of_ble_eq_true rfl) d_M_commitLeaf_120 ⟨Nat.zero_le _, Nat.zero_le _⟩ ?_
      refine lv_iload hx hb d_M_commitLeaf_123 (lv_at hl 0 rfl) ?_
      refine lv_sipush (v := 10007) hx hb d_M_commitLeaf_125 rfl ?_
      refine zz_cS (index := 92) (n := 3) (As := [.int (nI (ar 11 (2 * n + 0) ^ x0 % 10007)), .int 1, .int 10007]) (rest := [.int (nI ((2 * n) + 0)), .ref (am 14)]) ⟨hx, hb, hml, hown, hts⟩ (k_times l (ar 11 (2 * n + 0) ^ x0 % 10007) (1) 10007 (Nat.lt_trans (Nat.mod_lt _ (by decide)) (by decide)) (by decide) (by decide) (by decide)) mk_M_92 ms_M_times mi_M mc_M_times (by decide +kernel) ⟨rfl, rfl⟩ ⟨by decide, by decide⟩ preEq rfl hl.1 rfl (Nat.le_of_ble_eq_true rfl) d_M_commitLeaf_128 ⟨Nat.zero_le _, Nat.zero_le _⟩ ?_
      obtain ⟨v0, hv0⟩ : ∃ v, (ar 11 (2 * n + 0) ^ x0 % 10007) * 1 % 10007 = v := ⟨_, rfl⟩
      refine zz_as (y := nI v0) (congrArg nI hv0) ?_
      refine mm_ast hx hb hK hP hD hS 13 (by decide) rfl ((2 * n) + 0) rfl (show (2 * n) + 0 < 16 from by omega) (v0) (rfl) d_M_commitLeaf_131 (fun H locs hP hS => ?_)
      refine lv_iinc (k := 1) (v := nI (0 + 1)) (lv' := [(5, .int (nI (0 + 1))), (6, .int 1), (4, .int (nI x0)), (0, .ref (am 0)), (1, .int (nI n)), (2, .int (zb true)), (3, .int (nI c0))]) hx hb d_M_commitLeaf_132 hl rfl (nI_1 _) (by decide) rfl (fun ls hl => ?_)
      refine lv_goto (tgt := 48) hx hb d_M_commitLeaf_135 rfl ?_
      have hl : lv_has ls 7 [(5, .int 1), (6, .int 1), (4, .int (nI x0)), (0, .ref (am 0)), (1, .int (nI n)), (2, .int (zb true)), (3, .int (nI c0))] := hl
      refine lv_iload hx hb d_M_commitLeaf_48 (lv_at hl 0 rfl) ?_
      refine lv_iconst (v := 2) hx hb d_M_commitLeaf_50 rfl ?_
      refine lv_icmp_ge (tgt := 138) hx hb d_M_commitLeaf_51 rfl (fun h51 => absurd h51 (by decide)) (fun h51 => ?_)
      refine lv_aload_n hx hb d_M_commitLeaf_54 rfl (lv_at hl 3 rfl) ?_
      refine lv_iload_n hx hb d_M_commitLeaf_55 rfl (lv_at hl 4 rfl) ?_
      refine lv_iload hx hb d_M_commitLeaf_56 (lv_at hl 0 rfl) ?_
      refine zz_cV (index := 138) (n := 2) (As := [.int (nI n), .int 1]) (rest := []) ⟨hx, hb, hml, hown, hts⟩ (k_isPairM l D ca am (zs (zs (zs (zs (zs ar 0 5 d0) 20 n x0) 15 n 0) 16 n 0) 14 ((2 * n) + 0) v0) n 1 (by omega) (by decide) hl2 hbs) mk_M_138 mo_M_isPair me_M_M_isPair_M mi_M mc_M_isPair (by decide +kernel) ⟨rfl, rfl⟩ ⟨by decide, by decide⟩ (mm_pre hK hP) rfl hl.1 rfl (Nat.le_of_ble_eq_true rfl) d_M_commitLeaf_58 ⟨Nat.zero_le _, Nat.zero_le _⟩ ?_
      refine lv_if_eq (tgt := 132) hx hb d_M_commitLeaf_61 rfl (fun h61 => ?_) (fun h61 => ?_)
      · skip
        have hp1 : ¬ 0 < ar 11 (2 * n + 1) := pairB_f hn (zb_eq (b := pairB ar n 1) h61)
        refine lv_iinc (k := 0) (v := nI (1 + 1)) (lv' := [(5, .int (nI (1 + 1))), (6, .int 1), (4, .int (nI x0)), (0, .ref (am 0)), (1, .int (nI n)), (2, .int (zb true)), (3, .int (nI c0))]) hx hb d_M_commitLeaf_132 hl rfl (nI_1 _) (by decide) rfl (fun ls hl => ?_)
        refine lv_goto (tgt := 48) hx hb d_M_commitLeaf_135 rfl ?_
        have hl : lv_has ls 7 [(5, .int 2), (6, .int 1), (4, .int (nI x0)), (0, .ref (am 0)), (1, .int (nI n)), (2, .int (zb true)), (3, .int (nI c0))] := hl
        refine lv_iload hx hb d_M_commitLeaf_48 (lv_at hl 0 rfl) ?_
        refine lv_iconst (v := 2) hx hb d_M_commitLeaf_50 rfl ?_
        refine lv_icmp_ge (tgt := 138) hx hb d_M_commitLeaf_51 rfl (fun h51 => ?_) (fun h51 => absurd (by decide) h51)
        exact W.vret hx hb hr (fun t ht hW => ⟨⟨zs (zs (zs (zs (zs ar 0 5 d0) 20 n x0) 15 n 0) 16 n 0) 14 ((2 * n) + 0) v0, rfl, by rw [← hv0]; simp only [cmL, cv, hd0, hx0, Nat.add_zero] at hp0 hp1 ⊢; simp only [if_pos hp0, if_neg hp1, if_true, if_false, Bool.false_eq_true], va_K.moved hW.alike hK, by rw [ht]; exact hP⟩, hS.F ht⟩) hS.2.2 d_M_commitLeaf_138
      · skip
        have hp1 : 0 < ar 11 (2 * n + 1) := (pairB_t (zb_ne (b := pairB ar n 1) h61)).2
        have hbp := hbs (2 * n + 1) (by omega)
        have hip := his (2 * n + 1) (by omega)
        refine lv_iload_n hx hb d_M_commitLeaf_64 rfl (lv_at hl 5 rfl) ?_
        refine lv_if_eq (tgt := 72) hx hb d_M_commitLeaf_65 rfl (fun h65 => absurd h65 (by decide)) (fun h65 => ?_)
        refine lv_iconst (v := 1) hx hb d_M_commitLeaf_68 rfl ?_
        refine lv_goto (tgt := 95) hx hb d_M_commitLeaf_69 rfl ?_
        refine lv_istore (lv' := [(6, .int 1), (5, .int 1), (4, .int (nI x0)), (0, .ref (am 0)), (1, .int (nI n)), (2, .int (zb true)), (3, .int (nI c0))]) hx hb d_M_commitLeaf_95 hl (by decide) rfl (fun ls hl => ?_)
        refine lv_aload_n hx hb d_M_commitLeaf_97 rfl (lv_at hl 3 rfl) ?_
        refine mm_get hx hb hts hown hK hP (index := 49) 13 (by decide) mf_M_49 (v := .ref (am 14)) rfl d_M_commitLeaf_98 ?_
        refine lv_iconst (v := 2) hx hb d_M_commitLeaf_101 rfl ?_
        refine lv_iload_n hx hb d_M_commitLeaf_102 rfl (lv_at hl 4 rfl) ?_
        refine lv_imul hx hb d_M_commitLeaf_103 ?_
        refine zz_as (y := nI (2 * n)) (pk_mul 2 n) ?_
        refine lv_iload hx hb d_M_commitLeaf_104 (lv_at hl 1 rfl) ?_
        refine lv_iadd hx hb d_M_commitLeaf_106 ?_
        refine zz_as (y := nI ((2 * n) + 1)) (nI_add (2 * n) 1) ?_
        refine lv_aload_n hx hb d_M_commitLeaf_107 rfl (lv_at hl 3 rfl) ?_
        refine mm_get hx hb hts hown hK hP (index := 40) 10 (by decide) mf_M_40 (v := .ref (am 11)) rfl d_M_commitLeaf_108 ?_
        refine lv_iconst (v := 2) hx hb d_M_commitLeaf_111 rfl ?_
        refine lv_iload_n hx hb d_M_commitLeaf_112 rfl (lv_at hl 4 rfl) ?_
        refine lv_imul hx hb d_M_commitLeaf_113 ?_
        refine zz_as (y := nI (2 * n)) (pk_mul 2 n) ?_
        refine lv_iload hx hb d_M_commitLeaf_114 (lv_at hl 1 rfl) ?_
        refine lv_iadd hx hb d_M_commitLeaf_116 ?_
        refine zz_as (y := nI ((2 * n) + 1)) (nI_add (2 * n) 1) ?_
        refine mm_ald hx hb hK hP 10 (by decide) rfl ((2 * n) + 1) rfl (show (2 * n) + 1 < 16 from by omega) (ar 11 ((2 * n) + 1)) (rfl) d_M_commitLeaf_117 ?_
        refine lv_iload hx hb d_M_commitLeaf_118 (lv_at hl 2 rfl) ?_
        refine zz_cS (index := 96) (n := 2) (As := [.int (nI (ar 11 (2 * n + 1))), .int (nI x0)]) (rest := [.int (nI ((2 * n) + 1)), .ref (am 14)]) ⟨hx, hb, hml, hown, hts⟩ (k_raised l (ar 11 (2 * n + 1)) x0 hbp (by omega)) mk_M_96 ms_M_raised mi_M mc_M_raised (by decide +kernel) ⟨rfl, rfl⟩ ⟨by decide, by decide⟩ preEq rfl hl.1 rfl (Nat.le_of_ble_eq_true rfl) d_M_commitLeaf_120 ⟨Nat.zero_le _, Nat.zero_le _⟩ ?_
        refine lv_iload hx hb d_M_commitLeaf_123 (lv_at hl 0 rfl) ?_
        refine lv_sipush (v := 10007) hx hb d_M_commitLeaf_125 rfl ?_
        refine zz_cS (index := 92) (n := 3) (As := [.int (nI (ar 11 (2 * n + 1) ^ x0 % 10007)), .int 1, .int 10007]) (rest := [.int (nI ((2 * n) + 1)), .ref (am 14)]) ⟨hx, hb, hml, hown, hts⟩ (k_times l (ar 11 (2 * n + 1) ^ x0 % 10007) (1) 10007 (Nat.lt_trans (Nat.mod_lt _ (by decide)) (by decide)) (by decide) (by decide) (by decide)) mk_M_92 ms_M_times mi_M mc_M_times (by decide +kernel) ⟨rfl, rfl⟩ ⟨by decide, by decide⟩ preEq rfl hl.1 rfl (Nat.le_of_ble_eq_true rfl) d_M_commitLeaf_128 ⟨Nat.zero_le _, Nat.zero_le _⟩ ?_
        obtain ⟨v1, hv1⟩ : ∃ v, (ar 11 (2 * n + 1) ^ x0 % 10007) * 1 % 10007 = v := ⟨_, rfl⟩
        refine zz_as (y := nI v1) (congrArg nI hv1) ?_
        refine mm_ast hx hb hK hP hD hS 13 (by decide) rfl ((2 * n) + 1) rfl (show (2 * n) + 1 < 16 from by omega) (v1) (rfl) d_M_commitLeaf_131 (fun H locs hP hS => ?_)
        refine lv_iinc (k := 1) (v := nI (1 + 1)) (lv' := [(5, .int (nI (1 + 1))), (6, .int 1), (4, .int (nI x0)), (0, .ref (am 0)), (1, .int (nI n)), (2, .int (zb true)), (3, .int (nI c0))]) hx hb d_M_commitLeaf_132 hl rfl (nI_1 _) (by decide) rfl (fun ls hl => ?_)
        refine lv_goto (tgt := 48) hx hb d_M_commitLeaf_135 rfl ?_
        have hl : lv_has ls 7 [(5, .int 2), (6, .int 1), (4, .int (nI x0)), (0, .ref (am 0)), (1, .int (nI n)), (2, .int (zb true)), (3, .int (nI c0))] := hl
        refine lv_iload hx hb d_M_commitLeaf_48 (lv_at hl 0 rfl) ?_
        refine lv_iconst (v := 2) hx hb d_M_commitLeaf_50 rfl ?_
        refine lv_icmp_ge (tgt := 138) hx hb d_M_commitLeaf_51 rfl (fun h51 => ?_) (fun h51 => absurd (by decide) h51)
        exact W.vret hx hb hr (fun t ht hW => ⟨⟨zs (zs (zs (zs (zs (zs ar 0 5 d0) 20 n x0) 15 n 0) 16 n 0) 14 ((2 * n) + 0) v0) 14 ((2 * n) + 1) v1, rfl, by rw [← hv1]; rw [← hv0]; simp only [cmL, cv, hd0, hx0, Nat.add_zero] at hp0 hp1 ⊢; simp only [if_pos hp0, if_pos hp1, if_true, if_false, Bool.false_eq_true], va_K.moved hW.alike hK, by rw [ht]; exact hP⟩, hS.F ht⟩) hS.2.2 d_M_commitLeaf_138

theorem d_M_commitOr_0 : decode c_M_commitOr 0 = .ok (.aload_n 0, 1) := by decide +kernel
theorem d_M_commitOr_1 : decode c_M_commitOr 1 = .ok (.invokevirtual 148, 3) := by decide +kernel
theorem d_M_commitOr_4 : decode c_M_commitOr 4 = .ok (.istore 4, 2) := by decide +kernel
theorem d_M_commitOr_6 : decode c_M_commitOr 6 = .ok (.aload_n 0, 1) := by decide +kernel
theorem d_M_commitOr_7 : decode c_M_commitOr 7 = .ok (.getfield 74, 3) := by decide +kernel
theorem d_M_commitOr_10 : decode c_M_commitOr 10 = .ok (.iload_n 1, 1) := by decide +kernel
theorem d_M_commitOr_11 : decode c_M_commitOr 11 = .ok (.iload 4, 2) := by decide +kernel
theorem d_M_commitOr_13 : decode c_M_commitOr 13 = .ok (.iastore, 1) := by decide +kernel
theorem d_M_commitOr_14 : decode c_M_commitOr 14 = .ok (.aload_n 0, 1) := by decide +kernel
theorem d_M_commitOr_15 : decode c_M_commitOr 15 = .ok (.getfield 70, 3) := by decide +kernel
theorem d_M_commitOr_18 : decode c_M_commitOr 18 = .ok (.iload_n 1, 1) := by decide +kernel
theorem d_M_commitOr_19 : decode c_M_commitOr 19 = .ok (.iload_n 2, 1) := by decide +kernel
theorem d_M_commitOr_20 : decode c_M_commitOr 20 = .ok (.ifCond .eq 21, 3) := by decide +kernel
theorem d_M_commitOr_23 : decode c_M_commitOr 23 = .ok (.aload_n 0, 1) := by decide +kernel
theorem d_M_commitOr_24 : decode c_M_commitOr 24 = .ok (.getfield 89, 3) := by decide +kernel
theorem d_M_commitOr_27 : decode c_M_commitOr 27 = .ok (.aload_n 0, 1) := by decide +kernel
theorem d_M_commitOr_28 : decode c_M_commitOr 28 = .ok (.getfield 31, 3) := by decide +kernel
theorem d_M_commitOr_31 : decode c_M_commitOr 31 = .ok (.iload_n 1, 1) := by decide +kernel
theorem d_M_commitOr_32 : decode c_M_commitOr 32 = .ok (.iaload, 1) := by decide +kernel
theorem d_M_commitOr_33 : decode c_M_commitOr 33 = .ok (.baload, 1) := by decide +kernel
theorem d_M_commitOr_34 : decode c_M_commitOr 34 = .ok (.ifCond .eq 7, 3) := by decide +kernel
theorem d_M_commitOr_37 : decode c_M_commitOr 37 = .ok (.iconst 1, 1) := by decide +kernel
theorem d_M_commitOr_38 : decode c_M_commitOr 38 = .ok (.goto 4, 3) := by decide +kernel
theorem d_M_commitOr_41 : decode c_M_commitOr 41 = .ok (.iconst 0, 1) := by decide +kernel
theorem d_M_commitOr_42 : decode c_M_commitOr 42 = .ok (.bastore, 1) := by decide +kernel
theorem d_M_commitOr_43 : decode c_M_commitOr 43 = .ok (.iload_n 2, 1) := by decide +kernel
theorem d_M_commitOr_44 : decode c_M_commitOr 44 = .ok (.ifCond .eq 16, 3) := by decide +kernel
theorem d_M_commitOr_47 : decode c_M_commitOr 47 = .ok (.aload_n 0, 1) := by decide +kernel
theorem d_M_commitOr_48 : decode c_M_commitOr 48 = .ok (.getfield 70, 3) := by decide +kernel
theorem d_M_commitOr_51 : decode c_M_commitOr 51 = .ok (.iload_n 1, 1) := by decide +kernel
theorem d_M_commitOr_52 : decode c_M_commitOr 52 = .ok (.baload, 1) := by decide +kernel
theorem d_M_commitOr_53 : decode c_M_commitOr 53 = .ok (.ifCond .ne 7, 3) := by decide +kernel
theorem d_M_commitOr_56 : decode c_M_commitOr 56 = .ok (.iconst 1, 1) := by decide +kernel
theorem d_M_commitOr_57 : decode c_M_commitOr 57 = .ok (.goto 4, 3) := by decide +kernel
theorem d_M_commitOr_60 : decode c_M_commitOr 60 = .ok (.iconst 0, 1) := by decide +kernel
theorem d_M_commitOr_61 : decode c_M_commitOr 61 = .ok (.istore 5, 2) := by decide +kernel
theorem d_M_commitOr_63 : decode c_M_commitOr 63 = .ok (.aload_n 0, 1) := by decide +kernel
theorem d_M_commitOr_64 : decode c_M_commitOr 64 = .ok (.aload_n 0, 1) := by decide +kernel
theorem d_M_commitOr_65 : decode c_M_commitOr 65 = .ok (.getfield 34, 3) := by decide +kernel
theorem d_M_commitOr_68 : decode c_M_commitOr 68 = .ok (.iload_n 1, 1) := by decide +kernel
theorem d_M_commitOr_69 : decode c_M_commitOr 69 = .ok (.iaload, 1) := by decide +kernel
theorem d_M_commitOr_70 : decode c_M_commitOr 70 = .ok (.iload 5, 2) := by decide +kernel
theorem d_M_commitOr_72 : decode c_M_commitOr 72 = .ok (.iload_n 2, 1) := by decide +kernel
theorem d_M_commitOr_73 : decode c_M_commitOr 73 = .ok (.ifCond .eq 8, 3) := by decide +kernel
theorem d_M_commitOr_76 : decode c_M_commitOr 76 = .ok (.iload 4, 2) := by decide +kernel
theorem d_M_commitOr_78 : decode c_M_commitOr 78 = .ok (.goto 9, 3) := by decide +kernel
theorem d_M_commitOr_81 : decode c_M_commitOr 81 = .ok (.iload_n 3, 1) := by decide +kernel
theorem d_M_commitOr_82 : decode c_M_commitOr 82 = .ok (.iload 4, 2) := by decide +kernel
theorem d_M_commitOr_84 : decode c_M_commitOr 84 = .ok (.invokestatic 152, 3) := by decide +kernel
theorem d_M_commitOr_87 : decode c_M_commitOr 87 = .ok (.invokevirtual 155, 3) := by decide +kernel
theorem d_M_commitOr_90 : decode c_M_commitOr 90 = .ok (.aload_n 0, 1) := by decide +kernel
theorem d_M_commitOr_91 : decode c_M_commitOr 91 = .ok (.aload_n 0, 1) := by decide +kernel
theorem d_M_commitOr_92 : decode c_M_commitOr 92 = .ok (.getfield 31, 3) := by decide +kernel
theorem d_M_commitOr_95 : decode c_M_commitOr 95 = .ok (.iload_n 1, 1) := by decide +kernel
theorem d_M_commitOr_96 : decode c_M_commitOr 96 = .ok (.iaload, 1) := by decide +kernel
theorem d_M_commitOr_97 : decode c_M_commitOr 97 = .ok (.aload_n 0, 1) := by decide +kernel
theorem d_M_commitOr_98 : decode c_M_commitOr 98 = .ok (.getfield 70, 3) := by decide +kernel
theorem d_M_commitOr_101 : decode c_M_commitOr 101 = .ok (.iload_n 1, 1) := by decide +kernel
theorem d_M_commitOr_102 : decode c_M_commitOr 102 = .ok (.baload, 1) := by decide +kernel
theorem d_M_commitOr_103 : decode c_M_commitOr 103 = .ok (.iload 4, 2) := by decide +kernel
theorem d_M_commitOr_105 : decode c_M_commitOr 105 = .ok (.invokevirtual 155, 3) := by decide +kernel
theorem d_M_commitOr_108 : decode c_M_commitOr 108 = .ok (.return_, 1) := by decide +kernel

set_option maxHeartbeats 4000000 in
set_option maxRecDepth 100000 in
/-- commitOr(k, real, c) -/
theorem k_commitOrM (l : Launch) (D : va_G) (ca : Nat → ClassId) (am : Nat → Nat) (ar : Nat → Nat → Nat) (hI : mI am) (k : Nat) (real : Bool) (c0 : Nat) (hk : k < 15) (hch : ar 8 k < k ∧ ar 9 k < k) (hh : ar 27 (ar 8 k) < 2) (hc0 : c0 < 5003) (ht : ar 0 6 + 1 < 15) : Met l y_M_commitOr (Cond.code y_M_commitOr c_M_commitOr 6 none :: zT) ({ frames := 3, cells := 0, slots := 0, locals := 120 }) (va_Pc [.ref (am 0), .int (nI k), .int (zb real), .int (nI c0)] (mw D ca am ar)) (va_Qv (fun ar1 => ar1 = cOr ar k real c0) (mw D ca am) (mA am)) 0 0 (mA am) := by
  refine Met.ofW (cc := c_M_commitOr) (maxL := 6) (ret := none) (by decide) rfl ?_
  intro p e s m args below meth c s₁ B hml hv
  obtain ⟨rfl, hK, hP⟩ := hv
  have hx := B.exec
  have hb := B.bytes
  have hr := B.returns
  have hts0 := atoms_spec (ws := Cond.code y_M_commitOr c_M_commitOr 6 none :: zT) B.pre
  have hts := fun w h => hts0 w (List.mem_cons_of_mem _ h)
  have hown : s.vm.findClass R_M = some m.cls := findClass_of_methodNamed B.named
  have hlocks := B.notSynchronized
  have hD := mI_D hI
  have hS : va_S (mA am) s.heap s.heap [] := va_S.rf
  have hAA : ∀ q, mA am q → mA am q := fun _ h => h
  have hl := lv_entry ([.ref (am 0), .int (nI k), .int (zb real), .int (nI c0)]) (n := 6) (Nat.le_of_ble_eq_true rfl)
  rw [lg_entry_eq]
  generalize (lg_sl ([.ref (am 0), .int (nI k), .int (zb real), .int (nI c0)]) ++ List.replicate (6 - (lg_sl ([.ref (am 0), .int (nI k), .int (zb real), .int (nI c0)])).length) Slot.unset).toArray = ls at hl ⊢
  have hl : lv_has ls 6 [(0, .ref (am 0)), (1, .int (nI k)), (2, .int (zb real)), (3, .int (nI c0))] := hl
  skip
  cases real with
  | false =>
    refine lv_aload_n hx hb d_M_commitOr_0 rfl (lv_at hl 0 rfl) ?_
    refine mm_ci (index := 148) (n := 0) (As := []) (rest := []) ⟨hx, hb, hml, hown, hts⟩ (k_drawM l D ca am (ar) hI) mk_M_148 mo_M_draw me_M_M_draw_M mi_M mc_M_draw (by decide +kernel) ⟨rfl, rfl⟩ ⟨by decide, by decide⟩ hK hP hS hAA rfl hl.1 rfl (Nat.le_of_ble_eq_true rfl) d_M_commitOr_1 ⟨Nat.zero_le _, Nat.zero_le _⟩ (fun r ar1 H locs hpost hP hS => ?_)
    obtain ⟨hr1, har⟩ := hpost
    obtain ⟨d0, hd0⟩ : ∃ d, dr (ar 0 5) = d := ⟨_, rfl⟩
    rw [hd0] at hr1 har
    obtain ⟨x0, hx0⟩ : ∃ x, dv d0 = x := ⟨_, rfl⟩
    have hx1 : x0 < 5003 := by rw [← hx0]; exact dv_lt _
    rw [hx0] at hr1
    subst hr1 har
    refine lv_istore (lv' := [(4, .int (nI x0)), (0, .ref (am 0)), (1, .int (nI k)), (2, .int (zb false)), (3, .int (nI c0))]) hx hb d_M_commitOr_4 hl (by decide) rfl (fun ls hl => ?_)
    refine lv_aload_n hx hb d_M_commitOr_6 rfl (lv_at hl 1 rfl) ?_
    refine mm_get hx hb hts hown hK hP (index := 74) 21 (by decide) mf_M_74 (v := .ref (am 22)) rfl d_M_commitOr_7 ?_
    refine lv_iload_n hx hb d_M_commitOr_10 rfl (lv_at hl 2 rfl) ?_
    refine lv_iload hx hb d_M_commitOr_11 (lv_at hl 0 rfl) ?_
    refine mm_ast hx hb hK hP hD hS 21 (by decide) rfl (k) rfl (show k < 15 from by omega) (x0) (rfl) d_M_commitOr_13 (fun H locs hP hS => ?_)
    refine lv_aload_n hx hb d_M_commitOr_14 rfl (lv_at hl 1 rfl) ?_
    refine mm_get hx hb hts hown hK hP (index := 70) 20 (by decide) mf_M_70 (v := .ref (am 21)) rfl d_M_commitOr_15 ?_
    refine lv_iload_n hx hb d_M_commitOr_18 rfl (lv_at hl 2 rfl) ?_
    refine lv_iload_n hx hb d_M_commitOr_19 rfl (lv_at hl 3 rfl) ?_
    refine lv_if_eq (tgt := 41) hx hb d_M_commitOr_20 rfl (fun h20 => ?_) (fun h20 => absurd (rfl) h20)
    refine lv_iconst (v := 0) hx hb d_M_commitOr_41 rfl ?_
    refine mm_zast hx hb hK hP hD hS 20 (by decide) rfl (k) rfl (show k < 15 from by omega) (0) (rfl) (by decide) d_M_commitOr_42 (fun H locs hP hS => ?_)
    refine lv_iload_n hx hb d_M_commitOr_43 rfl (lv_at hl 3 rfl) ?_
    refine lv_if_eq (tgt := 60) hx hb d_M_commitOr_44 rfl (fun h44 => ?_) (fun h44 => absurd (rfl) h44)
    refine lv_iconst (v := 0) hx hb d_M_commitOr_60 rfl ?_
    refine lv_istore (lv' := [(5, .int 0), (4, .int (nI x0)), (0, .ref (am 0)), (1, .int (nI k)), (2, .int (zb false)), (3, .int (nI c0))]) hx hb d_M_commitOr_61 hl (by decide) rfl (fun ls hl => ?_)
    refine lv_aload_n hx hb d_M_commitOr_63 rfl (lv_at hl 2 rfl) ?_
    refine lv_aload_n hx hb d_M_commitOr_64 rfl (lv_at hl 2 rfl) ?_
    refine mm_get hx hb hts hown hK hP (index := 34) 8 (by decide) mf_M_34 (v := .ref (am 9)) rfl d_M_commitOr_65 ?_
    refine lv_iload_n hx hb d_M_commitOr_68 rfl (lv_at hl 3 rfl) ?_
    refine mm_ald hx hb hK hP 8 (by decide) rfl (k) rfl (show k < 15 from by omega) (ar 9 k) (rfl) d_M_commitOr_69 ?_
    refine lv_iload hx hb d_M_commitOr_70 (lv_at hl 0 rfl) ?_
    refine lv_iload_n hx hb d_M_commitOr_72 rfl (lv_at hl 4 rfl) ?_
    refine lv_if_eq (tgt := 81) hx hb d_M_commitOr_73 rfl (fun h73 => ?_) (fun h73 => absurd (rfl) h73)
    refine lv_iload_n hx hb d_M_commitOr_81 rfl (lv_at hl 5 rfl) ?_
    refine lv_iload hx hb d_M_commitOr_82 (lv_at hl 1 rfl) ?_
    refine zz_cS (index := 152) (n := 2) (As := [.int (nI c0), .int (nI x0)]) (rest := [.int 0, .int (nI (ar 9 k)), .ref (am 0)]) ⟨hx, hb, hml, hown, hts⟩ (k_less l c0 x0 hc0 hx1) mk_M_152 ms_M_less mi_M mc_M_less (by decide +kernel) ⟨rfl, rfl⟩ ⟨by decide, by decide⟩ preEq rfl hl.1 rfl (Nat.le_of_ble_eq_true rfl) d_M_commitOr_84 ⟨Nat.zero_le _, Nat.zero_le _⟩ ?_
    refine mm_cv (index := 155) (n := 3) (As := [.int (nI (ar 9 k)), .int (nI 0), .int (nI (ls5 c0 x0))]) (rest := []) ⟨hx, hb, hml, hown, hts⟩ (k_laterM l D ca am (zs (zs (zs ar 0 5 d0) 22 k x0) 21 k 0) hI (ar 9 k) 0 (ls5 c0 x0) (by omega) (by decide) (show _ < 15 from by show ar 0 6 < 15; omega)) mk_M_155 mo_M_later me_M_M_later_M mi_M mc_M_later (by decide +kernel) ⟨rfl, rfl⟩ ⟨by decide, by decide⟩ hK hP hS hAA rfl hl.1 rfl (Nat.le_of_ble_eq_true rfl) d_M_commitOr_87 ⟨Nat.zero_le _, Nat.zero_le _⟩ (fun ar1 H locs hpost hP hS => ?_)
    subst hpost
    refine lv_aload_n hx hb d_M_commitOr_90 rfl (lv_at hl 2 rfl) ?_
    refine lv_aload_n hx hb d_M_commitOr_91 rfl (lv_at hl 2 rfl) ?_
    refine mm_get hx hb hts hown hK hP (index := 31) 7 (by decide) mf_M_31 (v := .ref (am 8)) rfl d_M_commitOr_92 ?_
    refine lv_iload_n hx hb d_M_commitOr_95 rfl (lv_at hl 3 rfl) ?_
    refine mm_ald hx hb hK hP 7 (by decide) rfl (k) rfl (show k < 15 from by omega) (ar 8 k) (rfl) d_M_commitOr_96 ?_
    refine lv_aload_n hx hb d_M_commitOr_97 rfl (lv_at hl 2 rfl) ?_
    refine mm_get hx hb hts hown hK hP (index := 70) 20 (by decide) mf_M_70 (v := .ref (am 21)) rfl d_M_commitOr_98 ?_
    refine lv_iload_n hx hb d_M_commitOr_101 rfl (lv_at hl 3 rfl) ?_
    refine mm_zald hx hb hK hP 20 (by decide) rfl (k) rfl (show k < 15 from by omega) (0) (by simp [lat, zs_at]) d_M_commitOr_102 ?_
    refine lv_iload hx hb d_M_commitOr_103 (lv_at hl 1 rfl) ?_
    refine mm_cv (index := 155) (n := 3) (As := [.int (nI (ar 8 k)), .int (nI 0), .int (nI x0)]) (rest := []) ⟨hx, hb, hml, hown, hts⟩ (k_laterM l D ca am (lat (zs (zs (zs ar 0 5 d0) 22 k x0) 21 k 0) (ar 9 k) 0 (ls5 c0 x0)) hI (ar 8 k) 0 x0 (by omega) (by decide) (show _ < 15 from by show ar 0 6 + 1 < 15; omega)) mk_M_155 mo_M_later me_M_M_later_M mi_M mc_M_later (by decide +kernel) ⟨rfl, rfl⟩ ⟨by decide, by decide⟩ hK hP hS hAA rfl hl.1 rfl (Nat.le_of_ble_eq_true rfl) d_M_commitOr_105 ⟨Nat.zero_le _, Nat.zero_le _⟩ (fun ar1 H locs hpost hP hS => ?_)
    subst hpost
    exact W.vret hx hb hr (fun t ht hW => ⟨⟨lat (lat (zs (zs (zs ar 0 5 d0) 22 k x0) 21 k 0) (ar 9 k) 0 (ls5 c0 x0)) (ar 8 k) 0 x0, rfl, by simp only [cOr, cmO, hd0, hx0, Bool.false_and, if_false, Bool.false_eq_true], va_K.moved hW.alike hK, by rw [ht]; exact hP⟩, hS.F ht⟩) hS.2.2 d_M_commitOr_108
  | true =>
    refine lv_aload_n hx hb d_M_commitOr_0 rfl (lv_at hl 0 rfl) ?_
    refine mm_ci (index := 148) (n := 0) (As := []) (rest := []) ⟨hx, hb, hml, hown, hts⟩ (k_drawM l D ca am (ar) hI) mk_M_148 mo_M_draw me_M_M_draw_M mi_M mc_M_draw (by decide +kernel) ⟨rfl, rfl⟩ ⟨by decide, by decide⟩ hK hP hS hAA rfl hl.1 rfl (Nat.le_of_ble_eq_true rfl) d_M_commitOr_1 ⟨Nat.zero_le _, Nat.zero_le _⟩ (fun r ar1 H locs hpost hP hS => ?_)
    obtain ⟨hr1, har⟩ := hpost
    obtain ⟨d0, hd0⟩ : ∃ d, dr (ar 0 5) = d := ⟨_, rfl⟩
    rw [hd0] at hr1 har
    obtain ⟨x0, hx0⟩ : ∃ x, dv d0 = x := ⟨_, rfl⟩
    have hx1 : x0 < 5003 := by rw [← hx0]; exact dv_lt _
    rw [hx0] at hr1
    subst hr1 har
    refine lv_istore (lv' := [(4, .int (nI x0)), (0, .ref (am 0)), (1, .int (nI k)), (2, .int (zb true)), (3, .int (nI c0))]) hx hb d_M_commitOr_4 hl (by decide) rfl (fun ls hl => ?_)
    refine lv_aload_n hx hb d_M_commitOr_6 rfl (lv_at hl 1 rfl) ?_
    refine mm_get hx hb hts hown hK hP (index := 74) 21 (by decide) mf_M_74 (v := .ref (am 22)) rfl d_M_commitOr_7 ?_
    refine lv_iload_n hx hb d_M_commitOr_10 rfl (lv_at hl 2 rfl) ?_
    refine lv_iload hx hb d_M_commitOr_11 (lv_at hl 0 rfl) ?_
    refine mm_ast hx hb hK hP hD hS 21 (by decide) rfl (k) rfl (show k < 15 from by omega) (x0) (rfl) d_M_commitOr_13 (fun H locs hP hS => ?_)
    refine lv_aload_n hx hb d_M_commitOr_14 rfl (lv_at hl 1 rfl) ?_
    refine mm_get hx hb hts hown hK hP (index := 70) 20 (by decide) mf_M_70 (v := .ref (am 21)) rfl d_M_commitOr_15 ?_
    refine lv_iload_n hx hb d_M_commitOr_18 rfl (lv_at hl 2 rfl) ?_
    refine lv_iload_n hx hb d_M_commitOr_19 rfl (lv_at hl 3 rfl) ?_
    refine lv_if_eq (tgt := 41) hx hb d_M_commitOr_20 rfl (fun h20 => absurd h20 (by decide)) (fun h20 => ?_)
    refine lv_aload_n hx hb d_M_commitOr_23 rfl (lv_at hl 1 rfl) ?_
    refine mm_get hx hb hts hown hK hP (index := 89) 26 (by decide) mf_M_89 (v := .ref (am 27)) rfl d_M_commitOr_24 ?_
    refine lv_aload_n hx hb d_M_commitOr_27 rfl (lv_at hl 1 rfl) ?_
    refine mm_get hx hb hts hown hK hP (index := 31) 7 (by decide) mf_M_31 (v := .ref (am 8)) rfl d_M_commitOr_28 ?_
    refine lv_iload_n hx hb d_M_commitOr_31 rfl (lv_at hl 2 rfl) ?_
    refine mm_ald hx hb hK hP 7 (by decide) rfl (k) rfl (show k < 15 from by omega) (ar 8 k) (rfl) d_M_commitOr_32 ?_
    refine mm_zald hx hb hK hP 26 (by decide) rfl (ar 8 k) rfl (show ar 8 k < 15 from by omega) (ar 27 (ar 8 k)) (rfl) d_M_commitOr_33 ?_
    refine lv_if_eq (tgt := 41) hx hb d_M_commitOr_34 rfl (fun h34 => ?_) (fun h34 => ?_)
    · skip
      have hlr : ar 27 (ar 8 k) = 0 := b_z hh h34
      refine lv_iconst (v := 0) hx hb d_M_commitOr_41 rfl ?_
      refine mm_zast hx hb hK hP hD hS 20 (by decide) rfl (k) rfl (show k < 15 from by omega) (0) (rfl) (by decide) d_M_commitOr_42 (fun H locs hP hS => ?_)
      refine lv_iload_n hx hb d_M_commitOr_43 rfl (lv_at hl 3 rfl) ?_
      refine lv_if_eq (tgt := 60) hx hb d_M_commitOr_44 rfl (fun h44 => absurd h44 (by decide)) (fun h44 => ?_)
      refine lv_aload_n hx hb d_M_commitOr_47 rfl (lv_at hl 1 rfl) ?_
      refine mm_get hx hb hts hown hK hP (index := 70) 20 (by decide) mf_M_70 (v := .ref (am 21)) rfl d_M_commitOr_48 ?_
      refine lv_iload_n hx hb d_M_commitOr_51 rfl (lv_at hl 2 rfl) ?_
      refine mm_zald hx hb hK hP 20 (by decide) rfl (k) rfl (show k < 15 from by omega) (0) (zs_eq _ _ _ _) d_M_commitOr_52 ?_
      refine lv_if_ne (tgt := 60) hx hb d_M_commitOr_53 rfl (fun h53 => absurd (rfl) h53) (fun h53 => ?_)
      refine lv_iconst (v := 1) hx hb d_M_commitOr_56 rfl ?_
      refine lv_goto (tgt := 61) hx hb d_M_commitOr_57 rfl ?_
      refine lv_istore (lv' := [(5, .int 1), (4, .int (nI x0)), (0, .ref (am 0)), (1, .int (nI k)), (2, .int (zb true)), (3, .int (nI c0))]) hx hb d_M_commitOr_61 hl (by decide) rfl (fun ls hl => ?_)
      refine lv_aload_n hx hb d_M_commitOr_63 rfl (lv_at hl 2 rfl) ?_
      refine lv_aload_n hx hb d_M_commitOr_64 rfl (lv_at hl 2 rfl) ?_
      refine mm_get hx hb hts hown hK hP (index := 34) 8 (by decide) mf_M_34 (v := .ref (am 9)) rfl d_M_commitOr_65 ?_
      refine lv_iload_n hx hb d_M_commitOr_68 rfl (lv_at hl 3 rfl) ?_
      refine mm_ald hx hb hK hP 8 (by decide) rfl (k) rfl (show k < 15 from by omega) (ar 9 k) (rfl) d_M_commitOr_69 ?_
      refine lv_iload hx hb d_M_commitOr_70 (lv_at hl 0 rfl) ?_
      refine lv_iload_n hx hb d_M_commitOr_72 rfl (lv_at hl 4 rfl) ?_
      refine lv_if_eq (tgt := 81) hx hb d_M_commitOr_73 rfl (fun h73 => absurd h73 (by decide)) (fun h73 => ?_)
      refine lv_iload hx hb d_M_commitOr_76 (lv_at hl 1 rfl) ?_
      refine lv_goto (tgt := 87) hx hb d_M_commitOr_78 rfl ?_
      refine mm_cv (index := 155) (n := 3) (As := [.int (nI (ar 9 k)), .int (nI 1), .int (nI x0)]) (rest := []) ⟨hx, hb, hml, hown, hts⟩ (k_laterM l D ca am (zs (zs (zs ar 0 5 d0) 22 k x0) 21 k 0) hI (ar 9 k) 1 x0 (by omega) (by decide) (show _ < 15 from by show ar 0 6 < 15; omega)) mk_M_155 mo_M_later me_M_M_later_M mi_M mc_M_later (by decide +kernel) ⟨rfl, rfl⟩ ⟨by decide, by decide⟩ hK hP hS hAA rfl hl.1 rfl (Nat.le_of_ble_eq_true rfl) d_M_commitOr_87 ⟨Nat.zero_le _, Nat.zero_le _⟩ (fun ar1 H locs hpost hP hS => ?_)
      subst hpost
      refine lv_aload_n hx hb d_M_commitOr_90 rfl (lv_at hl 2 rfl) ?_
      refine lv_aload_n hx hb d_M_commitOr_91 rfl (lv_at hl 2 rfl) ?_
      refine mm_get hx hb hts hown hK hP (index := 31) 7 (by decide) mf_M_31 (v := .ref (am 8)) rfl d_M_commitOr_92 ?_
      refine lv_iload_n hx hb d_M_commitOr_95 rfl (lv_at hl 3 rfl) ?_
      refine mm_ald hx hb hK hP 7 (by decide) rfl (k) rfl (show k < 15 from by omega) (ar 8 k) (rfl) d_M_commitOr_96 ?_
      refine lv_aload_n hx hb d_M_commitOr_97 rfl (lv_at hl 2 rfl) ?_
      refine mm_get hx hb hts hown hK hP (index := 70) 20 (by decide) mf_M_70 (v := .ref (am 21)) rfl d_M_commitOr_98 ?_
      refine lv_iload_n hx hb d_M_commitOr_101 rfl (lv_at hl 3 rfl) ?_
      refine mm_zald hx hb hK hP 20 (by decide) rfl (k) rfl (show k < 15 from by omega) (0) (by simp [lat, zs_at]) d_M_commitOr_102 ?_
      refine lv_iload hx hb d_M_commitOr_103 (lv_at hl 1 rfl) ?_
      refine mm_cv (index := 155) (n := 3) (As := [.int (nI (ar 8 k)), .int (nI 0), .int (nI x0)]) (rest := []) ⟨hx, hb, hml, hown, hts⟩ (k_laterM l D ca am (lat (zs (zs (zs ar 0 5 d0) 22 k x0) 21 k 0) (ar 9 k) 1 x0) hI (ar 8 k) 0 x0 (by omega) (by decide) (show _ < 15 from by show ar 0 6 + 1 < 15; omega)) mk_M_155 mo_M_later me_M_M_later_M mi_M mc_M_later (by decide +kernel) ⟨rfl, rfl⟩ ⟨by decide, by decide⟩ hK hP hS hAA rfl hl.1 rfl (Nat.le_of_ble_eq_true rfl) d_M_commitOr_105 ⟨Nat.zero_le _, Nat.zero_le _⟩ (fun ar1 H locs hpost hP hS => ?_)
      subst hpost
      exact W.vret hx hb hr (fun t ht hW => ⟨⟨lat (lat (zs (zs (zs ar 0 5 d0) 22 k x0) 21 k 0) (ar 9 k) 1 x0) (ar 8 k) 0 x0, rfl, by simp only [cOr, cmO, hd0, hx0, decide_eq_false (show ¬ ar 27 (ar 8 k) = 1 by rw [hlr]; decide), Bool.true_and, Bool.not_true, Bool.not_false, if_true, if_false, Bool.false_eq_true], va_K.moved hW.alike hK, by rw [ht]; exact hP⟩, hS.F ht⟩) hS.2.2 d_M_commitOr_108
    · skip
      have hlr : ar 27 (ar 8 k) = 1 := b_o hh h34
      refine lv_iconst (v := 1) hx hb d_M_commitOr_37 rfl ?_
      refine lv_goto (tgt := 42) hx hb d_M_commitOr_38 rfl ?_
      refine mm_zast hx hb hK hP hD hS 20 (by decide) rfl (k) rfl (show k < 15 from by omega) (1) (rfl) (by decide) d_M_commitOr_42 (fun H locs hP hS => ?_)
      refine lv_iload_n hx hb d_M_commitOr_43 rfl (lv_at hl 3 rfl) ?_
      refine lv_if_eq (tgt := 60) hx hb d_M_commitOr_44 rfl (fun h44 => absurd h44 (by decide)) (fun h44 => ?_)
      refine lv_aload_n hx hb d_M_commitOr_47 rfl (lv_at hl 1 rfl) ?_
      refine mm_get hx hb hts hown hK hP (index := 70) 20 (by decide) mf_M_70 (v := .ref (am 21)) rfl d_M_commitOr_48 ?_
      refine lv_iload_n hx hb d_M_commitOr_51 rfl (lv_at hl 2 rfl) ?_
      refine mm_zald hx hb hK hP 20 (by decide) rfl (k) rfl (show k < 15 from by omega) (1) (zs_eq _ _ _ _) d_M_commitOr_52 ?_
      refine lv_if_ne (tgt := 60) hx hb d_M_commitOr_53 rfl (fun h53 => ?_) (fun h53 => absurd h53 (by decide))
      refine lv_iconst (v := 0) hx hb d_M_commitOr_60 rfl ?_
      refine lv_istore (lv' := [(5, .int 0), (4, .int (nI x0)), (0, .ref (am 0)), (1, .int (nI k)), (2, .int (zb true)), (3, .int (nI c0))]) hx hb d_M_commitOr_61 hl (by decide) rfl (fun ls hl => ?_)
      refine lv_aload_n hx hb d_M_commitOr_63 rfl (lv_at hl 2 rfl) ?_
      refine lv_aload_n hx hb d_M_commitOr_64 rfl (lv_at hl 2 rfl) ?_
      refine mm_get hx hb hts hown hK hP (index := 34) 8 (by decide) mf_M_34 (v := .ref (am 9)) rfl d_M_commitOr_65 ?_
      refine lv_iload_n hx hb d_M_commitOr_68 rfl (lv_at hl 3 rfl) ?_
      refine mm_ald hx hb hK hP 8 (by decide) rfl (k) rfl (show k < 15 from by omega) (ar 9 k) (rfl) d_M_commitOr_69 ?_
      refine lv_iload hx hb d_M_commitOr_70 (lv_at hl 0 rfl) ?_
      refine lv_iload_n hx hb d_M_commitOr_72 rfl (lv_at hl 4 rfl) ?_
      refine lv_if_eq (tgt := 81) hx hb d_M_commitOr_73 rfl (fun h73 => absurd h73 (by decide)) (fun h73 => ?_)
      refine lv_iload hx hb d_M_commitOr_76 (lv_at hl 1 rfl) ?_
      refine lv_goto (tgt := 87) hx hb d_M_commitOr_78 rfl ?_
      refine mm_cv (index := 155) (n := 3) (As := [.int (nI (ar 9 k)), .int (nI 0), .int (nI x0)]) (rest := []) ⟨hx, hb, hml, hown, hts⟩ (k_laterM l D ca am (zs (zs (zs ar 0 5 d0) 22 k x0) 21 k 1) hI (ar 9 k) 0 x0 (by omega) (by decide) (show _ < 15 from by show ar 0 6 < 15; omega)) mk_M_155 mo_M_later me_M_M_later_M mi_M mc_M_later (by decide +kernel) ⟨rfl, rfl⟩ ⟨by decide, by decide⟩ hK hP hS hAA rfl hl.1 rfl (Nat.le_of_ble_eq_true rfl) d_M_commitOr_87 ⟨Nat.zero_le _, Nat.zero_le _⟩ (fun ar1 H locs hpost hP hS => ?_)
      subst hpost
      refine lv_aload_n hx hb d_M_commitOr_90 rfl (lv_at hl 2 rfl) ?_
      refine lv_aload_n hx hb d_M_commitOr_91 rfl (lv_at hl 2 rfl) ?_
      refine mm_get hx hb hts hown hK hP (index := 31) 7 (by decide) mf_M_31 (v := .ref (am 8)) rfl d_M_commitOr_92 ?_
      refine lv_iload_n hx hb d_M_commitOr_95 rfl (lv_at hl 3 rfl) ?_
      refine mm_ald hx hb hK hP 7 (by decide) rfl (k) rfl (show k < 15 from by omega) (ar 8 k) (rfl) d_M_commitOr_96 ?_
      refine lv_aload_n hx hb d_M_commitOr_97 rfl (lv_at hl 2 rfl) ?_
      refine mm_get hx hb hts hown hK hP (index := 70) 20 (by decide) mf_M_70 (v := .ref (am 21)) rfl d_M_commitOr_98 ?_
      refine lv_iload_n hx hb d_M_commitOr_101 rfl (lv_at hl 3 rfl) ?_
      refine mm_zald hx hb hK hP 20 (by decide) rfl (k) rfl (show k < 15 from by omega) (1) (by simp [lat, zs_at]) d_M_commitOr_102 ?_
      refine lv_iload hx hb d_M_commitOr_103 (lv_at hl 1 rfl) ?_
      refine mm_cv (index := 155) (n := 3) (As := [.int (nI (ar 8 k)), .int (nI 1), .int (nI x0)]) (rest := []) ⟨hx, hb, hml, hown, hts⟩ (k_laterM l D ca am (lat (zs (zs (zs ar 0 5 d0) 22 k x0) 21 k 1) (ar 9 k) 0 x0) hI (ar 8 k) 1 x0 (by omega) (by decide) (show _ < 15 from by show ar 0 6 + 1 < 15; omega)) mk_M_155 mo_M_later me_M_M_later_M mi_M mc_M_later (by decide +kernel) ⟨rfl, rfl⟩ ⟨by decide, by decide⟩ hK hP hS hAA rfl hl.1 rfl (Nat.le_of_ble_eq_true rfl) d_M_commitOr_105 ⟨Nat.zero_le _, Nat.zero_le _⟩ (fun ar1 H locs hpost hP hS => ?_)
      subst hpost
      exact W.vret hx hb hr (fun t ht hW => ⟨⟨lat (lat (zs (zs (zs ar 0 5 d0) 22 k x0) 21 k 1) (ar 9 k) 0 x0) (ar 8 k) 1 x0, rfl, by simp only [cOr, cmO, hd0, hx0, decide_eq_true hlr, Bool.true_and, Bool.not_true, Bool.not_false, if_true, if_false, Bool.false_eq_true], va_K.moved hW.alike hK, by rw [ht]; exact hP⟩, hS.F ht⟩) hS.2.2 d_M_commitOr_108
end
section
/-! the model's state in two: what commit and respond give (o), and the work list (sc: queue, with, real, todo) -/
def isS (j i : Nat) : Prop := j = 23 ∨ j = 24 ∨ j = 25 ∨ (j = 0 ∧ i = 6)
def mix (o sc : Nat → Nat → Nat) : Nat → Nat → Nat := fun j i => if j = 23 ∨ j = 24 ∨ j = 25 ∨ (j = 0 ∧ i = 6) then sc j i else o j i
theorem zs_mixS (o sc : Nat → Nat → Nat) {j i : Nat} (v : Nat) (h : j = 23 ∨ j = 24 ∨ j = 25 ∨ (j = 0 ∧ i = 6)) : zs (mix o sc) j i v = mix o (zs sc j i v) := by
  funext a b
  simp only [mix, zs_at]
  by_cases e : a = j ∧ b = i
  · obtain ⟨rfl, rfl⟩ := e
    rw [if_pos ⟨rfl, rfl⟩, if_pos h, if_pos ⟨rfl, rfl⟩]
  · rw [if_neg e, if_neg e]
theorem zs_mixO (o sc : Nat → Nat → Nat) {j i : Nat} (v : Nat) (h : ¬ (j = 23 ∨ j = 24 ∨ j = 25 ∨ (j = 0 ∧ i = 6))) : zs (mix o sc) j i v = mix (zs o j i v) sc := by
  funext a b
  simp only [mix, zs_at]
  by_cases e : a = j ∧ b = i
  · obtain ⟨rfl, rfl⟩ := e
    rw [if_pos ⟨rfl, rfl⟩, if_neg h, if_pos ⟨rfl, rfl⟩]
  · rw [if_neg e, if_neg e]
theorem mix_self (o : Nat → Nat → Nat) : mix o o = o := by
  funext a b
  simp only [mix, ite_self]
theorem lat_mix (o sc : Nat → Nat → Nat) (k b c : Nat) : lat (mix o sc) k b c = mix o (lat sc k b c) := by
  unfold lat
  rw [show mix o sc 0 6 = sc 0 6 from rfl, zs_mixS o sc k (by omega), zs_mixS _ _ b (by omega), zs_mixS _ _ c (by omega), zs_mixS _ _ _ (by omega)]
theorem cmL_mix (i : Nat) (real : Bool) (c : Nat) (o sc : Nat → Nat → Nat) : cmL i real c (mix o sc) = mix (cmL i real c o) sc := by
  simp only [cmL]
  rw [show mix o sc 0 5 = o 0 5 from rfl, show mix o sc 11 (2 * i) = o 11 (2 * i) from rfl, show mix o sc 11 (2 * i + 1) = o 11 (2 * i + 1) from rfl, show mix o sc 12 (2 * i) = o 12 (2 * i) from rfl, show mix o sc 12 (2 * i + 1) = o 12 (2 * i + 1) from rfl]
  rw [zs_mixO o sc _ (by omega), zs_mixO _ sc _ (by omega), zs_mixO _ sc _ (by omega), zs_mixO _ sc _ (by omega)]
  by_cases h0 : 0 < o 11 (2 * i) <;> by_cases h1 : 0 < o 11 (2 * i + 1)
  · rw [if_pos h0, if_pos h1, if_pos h0, if_pos h1, zs_mixO _ sc _ (by omega), zs_mixO _ sc _ (by omega)]
  · rw [if_pos h0, if_neg h1, if_pos h0, if_neg h1, zs_mixO _ sc _ (by omega)]
  · rw [if_neg h0, if_pos h1, if_neg h0, if_pos h1, zs_mixO _ sc _ (by omega)]
  · rw [if_neg h0, if_neg h1, if_neg h0, if_neg h1]
theorem cOr_mix (k : Nat) (real : Bool) (c : Nat) (o sc : Nat → Nat → Nat) : cOr (mix o sc) k real c = mix (cmO k (real && decide (o 27 (o 8 k) = 1)) o) (lat (lat sc (o 9 k) (if real && !(real && decide (o 27 (o 8 k) = 1)) then 1 else 0) (if real then dv (dr (o 0 5)) else ls5 c (dv (dr (o 0 5))))) (o 8 k) (if real && decide (o 27 (o 8 k) = 1) then 1 else 0) (dv (dr (o 0 5)))) := by
  unfold cOr cmO
  rw [show mix o sc 0 5 = o 0 5 from rfl, show mix o sc 8 k = o 8 k from rfl, show mix o sc 9 k = o 9 k from rfl, show mix o sc 27 (o 8 k) = o 27 (o 8 k) from rfl]
  rw [zs_mixO o sc _ (by omega), zs_mixO _ sc _ (by omega), zs_mixO _ sc _ (by omega), lat_mix, lat_mix]
theorem rspL_mix (n c : Nat) (o sc : Nat → Nat → Nat) : rspL (mix o sc) n c = mix (rspL o n c) sc := by
  unfold rspL
  rw [show mix o sc 20 n = o 20 n from rfl, show mix o sc 13 n = o 13 n from rfl, zs_mixO o sc _ (by omega), zs_mixO _ sc _ (by omega)]
theorem lat_06 (a : Nat → Nat → Nat) (k b c : Nat) : lat a k b c 0 6 = a 0 6 + 1 := by simp [lat, zs_at]
theorem lat_23 (a : Nat → Nat → Nat) (k b c i : Nat) : lat a k b c 23 i = if i = a 0 6 then k else a 23 i := by simp [lat, zs_at]
theorem lat_24 (a : Nat → Nat → Nat) (k b c i : Nat) : lat a k b c 24 i = if i = k then c else a 24 i := by simp [lat, zs_at]
theorem lat_25 (a : Nat → Nat → Nat) (k b c i : Nat) : lat a k b c 25 i = if i = k then b else a 25 i := by simp [lat, zs_at]
/-- rows that commit leaves alone -/
def cRow (j : Nat) : Prop := j ≠ 0 ∧ j ≠ 14 ∧ j ≠ 15 ∧ j ≠ 16 ∧ j ≠ 20 ∧ j ≠ 21 ∧ j ≠ 22
theorem cmL_row {j : Nat} (h : cRow j) (i : Nat) (real : Bool) (c : Nat) (o : Nat → Nat → Nat) : cmL i real c o j = o j := by
  obtain ⟨h0, h14, h15, h16, h20, h21, h22⟩ := h
  simp only [cmL]
  by_cases a0 : 0 < o 11 (2 * i) <;> by_cases a1 : 0 < o 11 (2 * i + 1)
  · rw [if_pos a1, if_pos a0, zs_row _ _ _ h14, zs_row _ _ _ h14, zs_row _ _ _ h16, zs_row _ _ _ h15, zs_row _ _ _ h20, zs_row _ _ _ h0]
  · rw [if_neg a1, if_pos a0, zs_row _ _ _ h14, zs_row _ _ _ h16, zs_row _ _ _ h15, zs_row _ _ _ h20, zs_row _ _ _ h0]
  · rw [if_pos a1, if_neg a0, zs_row _ _ _ h14, zs_row _ _ _ h16, zs_row _ _ _ h15, zs_row _ _ _ h20, zs_row _ _ _ h0]
  · rw [if_neg a1, if_neg a0, zs_row _ _ _ h16, zs_row _ _ _ h15, zs_row _ _ _ h20, zs_row _ _ _ h0]
theorem cmL_0 {q : Nat} (hq : q ≠ 5) (i : Nat) (real : Bool) (c : Nat) (o : Nat → Nat → Nat) : cmL i real c o 0 q = o 0 q := by
  simp only [cmL]
  by_cases a0 : 0 < o 11 (2 * i) <;> by_cases a1 : 0 < o 11 (2 * i + 1) <;> simp [a0, a1, zs_at, hq]
theorem cmO_row {j : Nat} (h : cRow j) (k : Nat) (lr : Bool) (o : Nat → Nat → Nat) : cmO k lr o j = o j := by
  obtain ⟨h0, h14, h15, h16, h20, h21, h22⟩ := h
  unfold cmO
  rw [zs_row _ _ _ h21, zs_row _ _ _ h22, zs_row _ _ _ h0]
theorem cmO_0 {q : Nat} (hq : q ≠ 5) (k : Nat) (lr : Bool) (o : Nat → Nat → Nat) : cmO k lr o 0 q = o 0 q := by
  simp [cmO, zs_at, hq]
theorem cm_row {kd lf rt lv : Nat → Nat} {j : Nat} (h : cRow j) : ∀ (k : Nat) (real : Bool) (c : Nat) (o : Nat → Nat → Nat), cm kd lf rt lv k real c o j = o j := by
  intro k
  induction k using Nat.strongRecOn with
  | ind k ih =>
    intro real c o
    rw [cm]
    by_cases h0 : kd k = 0
    · rw [if_pos h0]; exact cmL_row h _ _ _ _
    · rw [if_neg h0]
      by_cases hc : lf k < k ∧ rt k < k
      · rw [dif_pos hc]
        by_cases h1 : kd k = 1
        · rw [if_pos h1, ih _ hc.2, ih _ hc.1]
        · rw [if_neg h1, ih _ hc.2, ih _ hc.1, cmO_row h]
      · rw [dif_neg hc]
theorem cm_0 {kd lf rt lv : Nat → Nat} {q : Nat} (hq : q ≠ 5) : ∀ (k : Nat) (real : Bool) (c : Nat) (o : Nat → Nat → Nat), cm kd lf rt lv k real c o 0 q = o 0 q := by
  intro k
  induction k using Nat.strongRecOn with
  | ind k ih =>
    intro real c o
    rw [cm]
    by_cases h0 : kd k = 0
    · rw [if_pos h0]; exact cmL_0 hq _ _ _ _
    · rw [if_neg h0]
      by_cases hc : lf k < k ∧ rt k < k
      · rw [dif_pos hc]
        by_cases h1 : kd k = 1
        · rw [if_pos h1, ih _ hc.2, ih _ hc.1]
        · rw [if_neg h1, ih _ hc.2, ih _ hc.1, cmO_0 hq]
      · rw [dif_neg hc]
/-- the tables stand as kd lf rt lv (tree), bt it (leaves), hd (known), lc (how many leaves) say -/
def tb (kd lf rt lv bt it hd : Nat → Nat) (lc : Nat) (o : Nat → Nat → Nat) : Prop := o 7 = kd ∧ o 8 = lf ∧ o 9 = rt ∧ o 10 = lv ∧ o 11 = bt ∧ o 12 = it ∧ o 27 = hd ∧ o 0 2 = lc
theorem tb_cm {kd lf rt lv bt it hd : Nat → Nat} {lc : Nat} {o : Nat → Nat → Nat} (h : tb kd lf rt lv bt it hd lc o) (k : Nat) (real : Bool) (c : Nat) : tb kd lf rt lv bt it hd lc (cm kd lf rt lv k real c o) := by
  obtain ⟨h1, h2, h3, h4, h5, h6, h7, h8⟩ := h
  refine ⟨?_, ?_, ?_, ?_, ?_, ?_, ?_, ?_⟩
  · rw [cm_row (by unfold cRow; decide)]; exact h1
  · rw [cm_row (by unfold cRow; decide)]; exact h2
  · rw [cm_row (by unfold cRow; decide)]; exact h3
  · rw [cm_row (by unfold cRow; decide)]; exact h4
  · rw [cm_row (by unfold cRow; decide)]; exact h5
  · rw [cm_row (by unfold cRow; decide)]; exact h6
  · rw [cm_row (by unfold cRow; decide)]; exact h7
  · rw [cm_0 (by decide)]; exact h8
theorem tb_cmO {kd lf rt lv bt it hd : Nat → Nat} {lc : Nat} {o : Nat → Nat → Nat} (h : tb kd lf rt lv bt it hd lc o) (k : Nat) (lr : Bool) : tb kd lf rt lv bt it hd lc (cmO k lr o) := by
  obtain ⟨h1, h2, h3, h4, h5, h6, h7, h8⟩ := h
  refine ⟨?_, ?_, ?_, ?_, ?_, ?_, ?_, ?_⟩
  · rw [cmO_row (by unfold cRow; decide)]; exact h1
  · rw [cmO_row (by unfold cRow; decide)]; exact h2
  · rw [cmO_row (by unfold cRow; decide)]; exact h3
  · rw [cmO_row (by unfold cRow; decide)]; exact h4
  · rw [cmO_row (by unfold cRow; decide)]; exact h5
  · rw [cmO_row (by unfold cRow; decide)]; exact h6
  · rw [cmO_row (by unfold cRow; decide)]; exact h7
  · rw [cmO_0 (by decide)]; exact h8
/-- the tree's places: a tree's nodes lie side by side, the left child's ahead of the right's -/
def tI (kd lf rt lo : Nat → Nat) (N : Nat) : Prop := ∀ k, k < N → kd k ≤ 2 ∧ lo k ≤ k ∧ (kd k ≠ 0 → lo k ≤ lo (lf k) ∧ lo (lf k) ≤ lf k ∧ lf k < lo (rt k) ∧ lo (rt k) ≤ rt k ∧ rt k < k)
/-- respond over the tree; ord: left before right -/
def rq (ord : Bool) (kd lf rt lv lr dn : Nat → Nat) (k c : Nat) (o : Nat → Nat → Nat) : Nat → Nat → Nat :=
  if kd k = 0 then rspL o (lv k) c
  else if h : lf k < k ∧ rt k < k then
    if kd k = 1 then (if ord then rq ord kd lf rt lv lr dn (rt k) c (rq ord kd lf rt lv lr dn (lf k) c o) else rq ord kd lf rt lv lr dn (lf k) c (rq ord kd lf rt lv lr dn (rt k) c o))
    else if lr k = 1 then rq ord kd lf rt lv lr dn (lf k) (ls5 c (dn k)) o else rq ord kd lf rt lv lr dn (rt k) (ls5 c (dn k)) o
  else o
termination_by k
decreasing_by all_goals first | exact h.1 | exact h.2
theorem rq_leaf {ord : Bool} {kd lf rt lv lr dn : Nat → Nat} {k : Nat} (h0 : kd k = 0) (c : Nat) (o : Nat → Nat → Nat) : rq ord kd lf rt lv lr dn k c o = rspL o (lv k) c := by
  rw [rq, if_pos h0]
theorem rq_and {ord : Bool} {kd lf rt lv lr dn : Nat → Nat} {k : Nat} (h0 : kd k = 1) (hl : lf k < k) (hr : rt k < k) (c : Nat) (o : Nat → Nat → Nat) : rq ord kd lf rt lv lr dn k c o = if ord then rq ord kd lf rt lv lr dn (rt k) c (rq ord kd lf rt lv lr dn (lf k) c o) else rq ord kd lf rt lv lr dn (lf k) c (rq ord kd lf rt lv lr dn (rt k) c o) := by
  rw [rq, if_neg (by rw [h0]; decide), dif_pos ⟨hl, hr⟩, if_pos h0]
theorem rq_orL {ord : Bool} {kd lf rt lv lr dn : Nat → Nat} {k : Nat} (h0 : kd k = 2) (hl : lf k < k) (hr : rt k < k) (h1 : lr k = 1) (c : Nat) (o : Nat → Nat → Nat) : rq ord kd lf rt lv lr dn k c o = rq ord kd lf rt lv lr dn (lf k) (ls5 c (dn k)) o := by
  rw [rq, if_neg (by rw [h0]; decide), dif_pos ⟨hl, hr⟩, if_neg (by rw [h0]; decide), if_pos h1]
theorem rq_orR {ord : Bool} {kd lf rt lv lr dn : Nat → Nat} {k : Nat} (h0 : kd k = 2) (hl : lf k < k) (hr : rt k < k) (h1 : ¬ lr k = 1) (c : Nat) (o : Nat → Nat → Nat) : rq ord kd lf rt lv lr dn k c o = rq ord kd lf rt lv lr dn (rt k) (ls5 c (dn k)) o := by
  rw [rq, if_neg (by rw [h0]; decide), dif_pos ⟨hl, hr⟩, if_neg (by rw [h0]; decide), if_neg h1]
theorem ls5_lt (a b : Nat) : ls5 a b < 5003 := Nat.mod_lt _ (by decide)
theorem rspL_row {j : Nat} (h1 : j ≠ 15) (h2 : j ≠ 16) (n c : Nat) (o : Nat → Nat → Nat) : rspL o n c j = o j := by
  unfold rspL; rw [zs_row _ _ _ h2, zs_row _ _ _ h1]
theorem rq_row {ord : Bool} {kd lf rt lv lr dn : Nat → Nat} {j : Nat} (h1 : j ≠ 15) (h2 : j ≠ 16) : ∀ (k c : Nat) (o : Nat → Nat → Nat), rq ord kd lf rt lv lr dn k c o j = o j := by
  intro k
  induction k using Nat.strongRecOn with
  | ind k ih =>
    intro c o
    rw [rq]
    by_cases h0 : kd k = 0
    · rw [if_pos h0]; exact rspL_row h1 h2 _ _ _
    · rw [if_neg h0]
      by_cases hc : lf k < k ∧ rt k < k
      · rw [dif_pos hc]
        by_cases h3 : kd k = 1
        · rw [if_pos h3]
          cases ord
          · rw [if_neg (by decide), ih _ hc.1, ih _ hc.2]
          · rw [if_pos rfl, ih _ hc.2, ih _ hc.1]
        · rw [if_neg h3]
          by_cases h4 : lr k = 1
          · rw [if_pos h4, ih _ hc.1]
          · rw [if_neg h4, ih _ hc.2]
      · rw [dif_neg hc]
end
section
/-! the model's commitTree -/
theorem zb_if (b : Bool) : nI (if b then 1 else 0) = zb b := by cases b <;> rfl
theorem if_lt2 (b : Bool) : (if b then 1 else 0) < 2 := by cases b <;> decide
theorem cm_or5 {kd lf rt lv : Nat → Nat} {k : Nat} (h0 : kd k = 2) (hl : lf k < k) (hr : rt k < k) (real : Bool) (c : Nat) (ar : Nat → Nat → Nat) : cm kd lf rt lv k real c ar = cm kd lf rt lv (rt k) (real && !(real && decide (ar 27 (lf k) = 1))) (if real then dv (dr (ar 0 5)) else ls5 c (dv (dr (ar 0 5))))
      (cm kd lf rt lv (lf k) (real && decide (ar 27 (lf k) = 1)) (dv (dr (ar 0 5))) (cmO k (real && decide (ar 27 (lf k) = 1)) ar)) := by
  rw [cm_or h0 hl hr]; rfl
theorem lat2 (sc : Nat → Nat → Nat) (t r l b1 c1 b2 c2 : Nat) (h : r ≠ l) : (lat (lat (zs sc 0 6 t) r b1 c1) l b2 c2) 0 6 = t + 1 + 1 ∧ (lat (lat (zs sc 0 6 t) r b1 c1) l b2 c2) 23 (t + 1) = l ∧ (lat (lat (zs sc 0 6 t) r b1 c1) l b2 c2) 23 t = r ∧ (∀ i, i < t → (lat (lat (zs sc 0 6 t) r b1 c1) l b2 c2) 23 i = sc 23 i) ∧ (lat (lat (zs sc 0 6 t) r b1 c1) l b2 c2) 24 l = c2 ∧ (lat (lat (zs sc 0 6 t) r b1 c1) l b2 c2) 25 l = b2 ∧ (lat (lat (zs sc 0 6 t) r b1 c1) l b2 c2) 24 r = c1 ∧ (lat (lat (zs sc 0 6 t) r b1 c1) l b2 c2) 25 r = b1 ∧ (∀ i, i ≠ l → i ≠ r → (lat (lat (zs sc 0 6 t) r b1 c1) l b2 c2) 24 i = sc 24 i ∧ (lat (lat (zs sc 0 6 t) r b1 c1) l b2 c2) 25 i = sc 25 i) := by
  have e : (zs sc 0 6 t) 0 6 = t := zs_eq _ _ _ _
  have e23 : ∀ i, (zs sc 0 6 t) 23 i = sc 23 i := fun i => zs_nj _ _ _ _ (by decide)
  have e24 : ∀ i, (zs sc 0 6 t) 24 i = sc 24 i := fun i => zs_nj _ _ _ _ (by decide)
  have e25 : ∀ i, (zs sc 0 6 t) 25 i = sc 25 i := fun i => zs_nj _ _ _ _ (by decide)
  refine ⟨?_, ?_, ?_, fun i hi => ?_, ?_, ?_, ?_, ?_, fun i h1 h2 => ⟨?_, ?_⟩⟩
  · rw [lat_06, lat_06, e]
  · rw [lat_23, lat_06, e, if_pos rfl]
  · rw [lat_23, lat_06, e, if_neg (by omega), lat_23, e, if_pos rfl]
  · rw [lat_23, lat_06, e, if_neg (by omega), lat_23, e, if_neg (by omega), e23]
  · rw [lat_24, if_pos rfl]
  · rw [lat_25, if_pos rfl]
  · rw [lat_24, if_neg h, lat_24, if_pos rfl]
  · rw [lat_25, if_neg h, lat_25, if_pos rfl]
  · rw [lat_24, if_neg h1, lat_24, if_neg h2, e24]
  · rw [lat_25, if_neg h1, lat_25, if_neg h2, e25]

theorem d_M_commitTree_0 : decode c_M_commitTree 0 = .ok (.aload_n 0, 1) := by decide +kernel
theorem d_M_commitTree_1 : decode c_M_commitTree 1 = .ok (.iload_n 3, 1) := by decide +kernel
theorem d_M_commitTree_2 : decode c_M_commitTree 2 = .ok (.putfield 104, 3) := by decide +kernel
theorem d_M_commitTree_5 : decode c_M_commitTree 5 = .ok (.aload_n 0, 1) := by decide +kernel
theorem d_M_commitTree_6 : decode c_M_commitTree 6 = .ok (.invokevirtual 142, 3) := by decide +kernel
theorem d_M_commitTree_9 : decode c_M_commitTree 9 = .ok (.aload_n 0, 1) := by decide +kernel
theorem d_M_commitTree_10 : decode c_M_commitTree 10 = .ok (.iconst 0, 1) := by decide +kernel
theorem d_M_commitTree_11 : decode c_M_commitTree 11 = .ok (.putfield 145, 3) := by decide +kernel
theorem d_M_commitTree_14 : decode c_M_commitTree 14 = .ok (.aload_n 0, 1) := by decide +kernel
theorem d_M_commitTree_15 : decode c_M_commitTree 15 = .ok (.aload_n 0, 1) := by decide +kernel
theorem d_M_commitTree_16 : decode c_M_commitTree 16 = .ok (.getfield 122, 3) := by decide +kernel
theorem d_M_commitTree_19 : decode c_M_commitTree 19 = .ok (.iconst 1, 1) := by decide +kernel
theorem d_M_commitTree_20 : decode c_M_commitTree 20 = .ok (.isub, 1) := by decide +kernel
theorem d_M_commitTree_21 : decode c_M_commitTree 21 = .ok (.iload_n 1, 1) := by decide +kernel
theorem d_M_commitTree_22 : decode c_M_commitTree 22 = .ok (.iload_n 2, 1) := by decide +kernel
theorem d_M_commitTree_23 : decode c_M_commitTree 23 = .ok (.invokevirtual 155, 3) := by decide +kernel
theorem d_M_commitTree_26 : decode c_M_commitTree 26 = .ok (.aload_n 0, 1) := by decide +kernel
theorem d_M_commitTree_27 : decode c_M_commitTree 27 = .ok (.getfield 145, 3) := by decide +kernel
theorem d_M_commitTree_30 : decode c_M_commitTree 30 = .ok (.ifCond .le 149, 3) := by decide +kernel
theorem d_M_commitTree_33 : decode c_M_commitTree 33 = .ok (.aload_n 0, 1) := by decide +kernel
theorem d_M_commitTree_34 : decode c_M_commitTree 34 = .ok (.dup, 1) := by decide +kernel
theorem d_M_commitTree_35 : decode c_M_commitTree 35 = .ok (.getfield 145, 3) := by decide +kernel
theorem d_M_commitTree_38 : decode c_M_commitTree 38 = .ok (.iconst 1, 1) := by decide +kernel
theorem d_M_commitTree_39 : decode c_M_commitTree 39 = .ok (.isub, 1) := by decide +kernel
theorem d_M_commitTree_40 : decode c_M_commitTree 40 = .ok (.putfield 145, 3) := by decide +kernel
theorem d_M_commitTree_43 : decode c_M_commitTree 43 = .ok (.aload_n 0, 1) := by decide +kernel
theorem d_M_commitTree_44 : decode c_M_commitTree 44 = .ok (.getfield 77, 3) := by decide +kernel
theorem d_M_commitTree_47 : decode c_M_commitTree 47 = .ok (.aload_n 0, 1) := by decide +kernel
theorem d_M_commitTree_48 : decode c_M_commitTree 48 = .ok (.getfield 145, 3) := by decide +kernel
theorem d_M_commitTree_51 : decode c_M_commitTree 51 = .ok (.iaload, 1) := by decide +kernel
theorem d_M_commitTree_52 : decode c_M_commitTree 52 = .ok (.istore 4, 2) := by decide +kernel
theorem d_M_commitTree_54 : decode c_M_commitTree 54 = .ok (.aload_n 0, 1) := by decide +kernel
theorem d_M_commitTree_55 : decode c_M_commitTree 55 = .ok (.getfield 28, 3) := by decide +kernel
theorem d_M_commitTree_58 : decode c_M_commitTree 58 = .ok (.iload 4, 2) := by decide +kernel
theorem d_M_commitTree_60 : decode c_M_commitTree 60 = .ok (.iaload, 1) := by decide +kernel
theorem d_M_commitTree_61 : decode c_M_commitTree 61 = .ok (.ifCond .ne 31, 3) := by decide +kernel
theorem d_M_commitTree_64 : decode c_M_commitTree 64 = .ok (.aload_n 0, 1) := by decide +kernel
theorem d_M_commitTree_65 : decode c_M_commitTree 65 = .ok (.aload_n 0, 1) := by decide +kernel
theorem d_M_commitTree_66 : decode c_M_commitTree 66 = .ok (.getfield 37, 3) := by decide +kernel
theorem d_M_commitTree_69 : decode c_M_commitTree 69 = .ok (.iload 4, 2) := by decide +kernel
theorem d_M_commitTree_71 : decode c_M_commitTree 71 = .ok (.iaload, 1) := by decide +kernel
theorem d_M_commitTree_72 : decode c_M_commitTree 72 = .ok (.aload_n 0, 1) := by decide +kernel
theorem d_M_commitTree_73 : decode c_M_commitTree 73 = .ok (.getfield 83, 3) := by decide +kernel
theorem d_M_commitTree_76 : decode c_M_commitTree 76 = .ok (.iload 4, 2) := by decide +kernel
theorem d_M_commitTree_78 : decode c_M_commitTree 78 = .ok (.baload, 1) := by decide +kernel
theorem d_M_commitTree_79 : decode c_M_commitTree 79 = .ok (.aload_n 0, 1) := by decide +kernel
theorem d_M_commitTree_80 : decode c_M_commitTree 80 = .ok (.getfield 80, 3) := by decide +kernel
theorem d_M_commitTree_83 : decode c_M_commitTree 83 = .ok (.iload 4, 2) := by decide +kernel
theorem d_M_commitTree_85 : decode c_M_commitTree 85 = .ok (.iaload, 1) := by decide +kernel
theorem d_M_commitTree_86 : decode c_M_commitTree 86 = .ok (.invokevirtual 159, 3) := by decide +kernel
theorem d_M_commitTree_89 : decode c_M_commitTree 89 = .ok (.goto 87, 3) := by decide +kernel
theorem d_M_commitTree_92 : decode c_M_commitTree 92 = .ok (.aload_n 0, 1) := by decide +kernel
theorem d_M_commitTree_93 : decode c_M_commitTree 93 = .ok (.getfield 28, 3) := by decide +kernel
theorem d_M_commitTree_96 : decode c_M_commitTree 96 = .ok (.iload 4, 2) := by decide +kernel
theorem d_M_commitTree_98 : decode c_M_commitTree 98 = .ok (.iaload, 1) := by decide +kernel
theorem d_M_commitTree_99 : decode c_M_commitTree 99 = .ok (.iconst 1, 1) := by decide +kernel
theorem d_M_commitTree_100 : decode c_M_commitTree 100 = .ok (.if_icmp .ne 56, 3) := by decide +kernel
theorem d_M_commitTree_103 : decode c_M_commitTree 103 = .ok (.aload_n 0, 1) := by decide +kernel
theorem d_M_commitTree_104 : decode c_M_commitTree 104 = .ok (.aload_n 0, 1) := by decide +kernel
theorem d_M_commitTree_105 : decode c_M_commitTree 105 = .ok (.getfield 34, 3) := by decide +kernel
theorem d_M_commitTree_108 : decode c_M_commitTree 108 = .ok (.iload 4, 2) := by decide +kernel
theorem d_M_commitTree_110 : decode c_M_commitTree 110 = .ok (.iaload, 1) := by decide +kernel
theorem d_M_commitTree_111 : decode c_M_commitTree 111 = .ok (.aload_n 0, 1) := by decide +kernel
theorem d_M_commitTree_112 : decode c_M_commitTree 112 = .ok (.getfield 83, 3) := by decide +kernel
theorem d_M_commitTree_115 : decode c_M_commitTree 115 = .ok (.iload 4, 2) := by decide +kernel
theorem d_M_commitTree_117 : decode c_M_commitTree 117 = .ok (.baload, 1) := by decide +kernel
theorem d_M_commitTree_118 : decode c_M_commitTree 118 = .ok (.aload_n 0, 1) := by decide +kernel
theorem d_M_commitTree_119 : decode c_M_commitTree 119 = .ok (.getfield 80, 3) := by decide +kernel
theorem d_M_commitTree_122 : decode c_M_commitTree 122 = .ok (.iload 4, 2) := by decide +kernel
theorem d_M_commitTree_124 : decode c_M_commitTree 124 = .ok (.iaload, 1) := by decide +kernel
theorem d_M_commitTree_125 : decode c_M_commitTree 125 = .ok (.invokevirtual 155, 3) := by decide +kernel
theorem d_M_commitTree_128 : decode c_M_commitTree 128 = .ok (.aload_n 0, 1) := by decide +kernel
theorem d_M_commitTree_129 : decode c_M_commitTree 129 = .ok (.aload_n 0, 1) := by decide +kernel
theorem d_M_commitTree_130 : decode c_M_commitTree 130 = .ok (.getfield 31, 3) := by decide +kernel
theorem d_M_commitTree_133 : decode c_M_commitTree 133 = .ok (.iload 4, 2) := by decide +kernel
theorem d_M_commitTree_135 : decode c_M_commitTree 135 = .ok (.iaload, 1) := by decide +kernel
theorem d_M_commitTree_136 : decode c_M_commitTree 136 = .ok (.aload_n 0, 1) := by decide +kernel
theorem d_M_commitTree_137 : decode c_M_commitTree 137 = .ok (.getfield 83, 3) := by decide +kernel
theorem d_M_commitTree_140 : decode c_M_commitTree 140 = .ok (.iload 4, 2) := by decide +kernel
theorem d_M_commitTree_142 : decode c_M_commitTree 142 = .ok (.baload, 1) := by decide +kernel
theorem d_M_commitTree_143 : decode c_M_commitTree 143 = .ok (.aload_n 0, 1) := by decide +kernel
theorem d_M_commitTree_144 : decode c_M_commitTree 144 = .ok (.getfield 80, 3) := by decide +kernel
theorem d_M_commitTree_147 : decode c_M_commitTree 147 = .ok (.iload 4, 2) := by decide +kernel
theorem d_M_commitTree_149 : decode c_M_commitTree 149 = .ok (.iaload, 1) := by decide +kernel
theorem d_M_commitTree_150 : decode c_M_commitTree 150 = .ok (.invokevirtual 155, 3) := by decide +kernel
theorem d_M_commitTree_153 : decode c_M_commitTree 153 = .ok (.goto 23, 3) := by decide +kernel
theorem d_M_commitTree_156 : decode c_M_commitTree 156 = .ok (.aload_n 0, 1) := by decide +kernel
theorem d_M_commitTree_157 : decode c_M_commitTree 157 = .ok (.iload 4, 2) := by decide +kernel
theorem d_M_commitTree_159 : decode c_M_commitTree 159 = .ok (.aload_n 0, 1) := by decide +kernel
theorem d_M_commitTree_160 : decode c_M_commitTree 160 = .ok (.getfield 83, 3) := by decide +kernel
theorem d_M_commitTree_163 : decode c_M_commitTree 163 = .ok (.iload 4, 2) := by decide +kernel
theorem d_M_commitTree_165 : decode c_M_commitTree 165 = .ok (.baload, 1) := by decide +kernel
theorem d_M_commitTree_166 : decode c_M_commitTree 166 = .ok (.aload_n 0, 1) := by decide +kernel
theorem d_M_commitTree_167 : decode c_M_commitTree 167 = .ok (.getfield 80, 3) := by decide +kernel
theorem d_M_commitTree_170 : decode c_M_commitTree 170 = .ok (.iload 4, 2) := by decide +kernel
theorem d_M_commitTree_172 : decode c_M_commitTree 172 = .ok (.iaload, 1) := by decide +kernel
theorem d_M_commitTree_173 : decode c_M_commitTree 173 = .ok (.invokevirtual 162, 3) := by decide +kernel
theorem d_M_commitTree_176 : decode c_M_commitTree 176 = .ok (.goto (-150), 3) := by decide +kernel
theorem d_M_commitTree_179 : decode c_M_commitTree 179 = .ok (.return_, 1) := by decide +kernel

section MT
variable {p : Program} {l : Launch} {e : Env} {R : Room} {s : State} {m : MethodId} {args : Array Value} {below : List Frame} {meth : Method} {c : Code} {H0 : Heap} {cells slots : Nat} {Q : State → Prop} {A : Nat → Prop} {D : va_G} {ca : Nat → ClassId} {am : Nat → Nat} {ar : Nat → Nat → Nat}
set_option maxHeartbeats 4000000 in
set_option maxRecDepth 100000 in
theorem ct_node (hx : p.tables.exec = Jvm.exec) (hb : c.code = c_M_commitTree) (hml : c.maxLocals = 5) (hown : s.vm.findClass R_M = some m.cls) (hts : ∀ w ∈ zT, w.before args s = true) (hK : va_K D zC (zty ca) s) (hD : zD A 28 am) (hI : mI am) (hAA : ∀ q, mA am q → A q) (hRf : 5 ≤ R.frames) (hRl : 200 ≤ R.locals) (hc : cells ≤ R.cells) (hsl : slots ≤ R.slots) {N lc : Nat} {kd lf rt lv bt it hd : Nat → Nat} {lo : Nat → Nat} (hN : N ≤ 15) (hlc : lc ≤ 8) (hI2 : tI kd lf rt lo N) (hlv : ∀ k, k < N → kd k = 0 → lv k < lc) (hbt : ∀ i, i < 16 → bt i < 10007) (hit : ∀ i, i < 16 → it i < 10007) (hhd : ∀ k, k < N → hd k < 2) : ∀ (k : Nat), k < N → ∀ (t : Nat) (real : Bool) (c0 : Nat) (o sc : Nat → Nat → Nat) (H : Heap) (locs : List Loc) (ls : Array Slot), t + k ≤ 14 → c0 < 5003 → tb kd lf rt lv bt it hd lc o → sc 0 6 = t + 1 → sc 23 t = k → sc 25 k = (if real then 1 else 0) → sc 24 k = c0 → va_P D zC (zl 28 am (mct ca am (mix o sc))) H → va_S A H0 H locs → lv_has ls 5 [(0, .ref (am 0))] →
    (∀ (sc1 : Nat → Nat → Nat) (H : Heap) (locs : List Loc) (ls : Array Slot), sc1 0 6 = t → (∀ i, i < t → sc1 23 i = sc 23 i) → (∀ i, i < lo k ∨ k ≤ i → sc1 24 i = sc 24 i ∧ sc1 25 i = sc 25 i) → va_P D zC (zl 28 am (mct ca am (mix (cm kd lf rt lv k real c0 o) sc1))) H → va_S A H0 H locs → lv_has ls 5 [(0, .ref (am 0))] → W p l e R s m args below meth c H locs cells slots Q (F0 m 26 ls [])) → W p l e R s m args below meth c H locs cells slots Q (F0 m 26 ls []) := by
  intro k
  induction k using Nat.strongRecOn with
  | ind k ih =>
    intro hk t real c0 o sc H locs ls htk hc0 hTb hsc hq hrl hcc hP hS hl kk
    obtain ⟨hkd, hlo, hch⟩ := hI2 k hk
    obtain ⟨h7, h8, h9, h10, h11, h12, h27, h02⟩ := id hTb
    rcases (show kd k = 0 ∨ kd k = 1 ∨ kd k = 2 by omega) with k0 | k0 | k0
    · skip
      have hlvk := hlv k hk k0
      refine lv_aload_n hx hb d_M_commitTree_26 rfl (lv_at hl 0 rfl) ?_
      refine mm_get hx hb hts hown hK hP (index := 145) 33 (by decide) mf_M_145 (v := .int (nI ((mix o sc) 0 6))) rfl d_M_commitTree_27 ?_
      refine zz_as (y := nI (t + 1)) (congrArg nI hsc) ?_
      refine lv_if_le (tgt := 179) hx hb d_M_commitTree_30 rfl (fun h30 => absurd h30 (nI_nle (by omega) (by omega))) (fun h30 => ?_)
      refine lv_aload_n hx hb d_M_commitTree_33 rfl (lv_at hl 0 rfl) ?_
      refine lv_dup hx hb d_M_commitTree_34 rfl ?_
      refine mm_get hx hb hts hown hK hP (index := 145) 33 (by decide) mf_M_145 (v := .int (nI ((mix o sc) 0 6))) rfl d_M_commitTree_35 ?_
      refine zz_as (y := nI (t + 1)) (congrArg nI hsc) ?_
      refine lv_iconst (v := 1) hx hb d_M_commitTree_38 rfl ?_
      refine lv_isub hx hb d_M_commitTree_39 ?_
      refine zz_as (y := nI ((t + 1) - 1)) (pk_sub (a := t + 1) (b := 1) (by omega)) ?_
      refine zz_as (y := nI t) (rfl) ?_
      refine mm_put hx hb hts hown hK hP hD hS (index := 145) 6 (by decide) mf_M_145 (t) (rfl) rfl rfl d_M_commitTree_40 (fun H locs hP hS => ?_)
      refine lv_aload_n hx hb d_M_commitTree_43 rfl (lv_at hl 0 rfl) ?_
      refine mm_get hx hb hts hown hK hP (index := 77) 22 (by decide) mf_M_77 (v := .ref (am 23)) rfl d_M_commitTree_44 ?_
      refine lv_aload_n hx hb d_M_commitTree_47 rfl (lv_at hl 0 rfl) ?_
      refine mm_get hx hb hts hown hK hP (index := 145) 33 (by decide) mf_M_145 (v := .int (nI t)) rfl d_M_commitTree_48 ?_
      refine mm_ald hx hb hK hP 22 (by decide) rfl (t) rfl (show t < 15 from by omega) (k) (hq) d_M_commitTree_51 ?_
      refine lv_istore (lv' := [(4, .int (nI k)), (0, .ref (am 0))]) hx hb d_M_commitTree_52 hl (by decide) rfl (fun ls hl => ?_)
      refine lv_aload_n hx hb d_M_commitTree_54 rfl (lv_at hl 1 rfl) ?_
      refine mm_get hx hb hts hown hK hP (index := 28) 6 (by decide) mf_M_28 (v := .ref (am 7)) rfl d_M_commitTree_55 ?_
      refine lv_iload hx hb d_M_commitTree_58 (lv_at hl 0 rfl) ?_
      refine mm_ald hx hb hK hP 6 (by decide) rfl (k) rfl (show k < 15 from by omega) (kd k) (congrFun h7 k) d_M_commitTree_60 ?_
      refine lv_if_ne (tgt := 92) hx hb d_M_commitTree_61 rfl (fun h61 => absurd (by rw [k0]; rfl) h61) (fun h61 => ?_)
      refine lv_aload_n hx hb d_M_commitTree_64 rfl (lv_at hl 1 rfl) ?_
      refine lv_aload_n hx hb d_M_commitTree_65 rfl (lv_at hl 1 rfl) ?_
      refine mm_get hx hb hts hown hK hP (index := 37) 9 (by decide) mf_M_37 (v := .ref (am 10)) rfl d_M_commitTree_66 ?_
      refine lv_iload hx hb d_M_commitTree_69 (lv_at hl 0 rfl) ?_
      refine mm_ald hx hb hK hP 9 (by decide) rfl (k) rfl (show k < 15 from by omega) (lv k) (congrFun h10 k) d_M_commitTree_71 ?_
      refine lv_aload_n hx hb d_M_commitTree_72 rfl (lv_at hl 1 rfl) ?_
      refine mm_get hx hb hts hown hK hP (index := 83) 24 (by decide) mf_M_83 (v := .ref (am 25)) rfl d_M_commitTree_73 ?_
      refine lv_iload hx hb d_M_commitTree_76 (lv_at hl 0 rfl) ?_
      refine mm_zald hx hb hK hP 24 (by decide) rfl (k) rfl (show k < 15 from by omega) (if real then 1 else 0) (hrl) d_M_commitTree_78 ?_
      refine zz_as (y := zb real) (zb_if real) ?_
      refine lv_aload_n hx hb d_M_commitTree_79 rfl (lv_at hl 1 rfl) ?_
      refine mm_get hx hb hts hown hK hP (index := 80) 23 (by decide) mf_M_80 (v := .ref (am 24)) rfl d_M_commitTree_80 ?_
      refine lv_iload hx hb d_M_commitTree_83 (lv_at hl 0 rfl) ?_
      refine mm_ald hx hb hK hP 23 (by decide) rfl (k) rfl (show k < 15 from by omega) (c0) (hcc) d_M_commitTree_85 ?_
      refine mm_cv (index := 159) (n := 3) (As := [.int (nI (lv k)), .int (zb real), .int (nI c0)]) (rest := []) ⟨hx, hb, hml, hown, hts⟩ (k_commitLeafM l D ca am (zs (mix o sc) 0 6 t) hI (lv k) real c0 (show lv k < o 0 2 by rw [h02]; exact hlvk) (show o 0 2 ≤ 8 by rw [h02]; exact hlc) hc0 (show ∀ i, i < 16 → o 11 i < 10007 by rw [h11]; exact hbt) (show ∀ i, i < 16 → o 12 i < 10007 by rw [h12]; exact hit)) mk_M_159 mo_M_commitLeaf me_M_M_commitLeaf_M mi_M mc_M_commitLeaf (by decide +kernel) ⟨rfl, rfl⟩ ⟨Nat.le_trans (by decide) hRf, Nat.le_trans (by decide) hRl⟩ hK hP hS hAA rfl hl.1 rfl (Nat.le_of_ble_eq_true rfl) d_M_commitTree_86 ⟨hc, hsl⟩ (fun ar1 H locs hpost hP hS => ?_)
      rw [zs_mixS _ _ _ (by omega), cmL_mix] at hpost
      subst hpost
      refine lv_goto (tgt := 176) hx hb d_M_commitTree_89 rfl ?_
      refine lv_goto (tgt := 26) hx hb d_M_commitTree_176 rfl ?_
      have hl := lv_sub (l' := [(0, .ref (am 0))]) hl [1] rfl
      exact kk (zs sc 0 6 t) H locs ls rfl (fun i hi => rfl) (fun i hi => ⟨rfl, rfl⟩) (by rw [cm_leaf k0]; exact hP) hS hl
    · skip
      obtain ⟨c1, c2, c3, c4, c5⟩ := hch (by rw [k0]; decide)
      have hlk : lf k < k := by omega
      refine lv_aload_n hx hb d_M_commitTree_26 rfl (lv_at hl 0 rfl) ?_
      refine mm_get hx hb hts hown hK hP (index := 145) 33 (by decide) mf_M_145 (v := .int (nI ((mix o sc) 0 6))) rfl d_M_commitTree_27 ?_
      refine zz_as (y := nI (t + 1)) (congrArg nI hsc) ?_
      refine lv_if_le (tgt := 179) hx hb d_M_commitTree_30 rfl (fun h30 => absurd h30 (nI_nle (by omega) (by omega))) (fun h30 => ?_)
      refine lv_aload_n hx hb d_M_commitTree_33 rfl (lv_at hl 0 rfl) ?_
      refine lv_dup hx hb d_M_commitTree_34 rfl ?_
      refine mm_get hx hb hts hown hK hP (index := 145) 33 (by decide) mf_M_145 (v := .int (nI ((mix o sc) 0 6))) rfl d_M_commitTree_35 ?_
      refine zz_as (y := nI (t + 1)) (congrArg nI hsc) ?_
      refine lv_iconst (v := 1) hx hb d_M_commitTree_38 rfl ?_
      refine lv_isub hx hb d_M_commitTree_39 ?_
      refine zz_as (y := nI ((t + 1) - 1)) (pk_sub (a := t + 1) (b := 1) (by omega)) ?_
      refine zz_as (y := nI t) (rfl) ?_
      refine mm_put hx hb hts hown hK hP hD hS (index := 145) 6 (by decide) mf_M_145 (t) (rfl) rfl rfl d_M_commitTree_40 (fun H locs hP hS => ?_)
      refine lv_aload_n hx hb d_M_commitTree_43 rfl (lv_at hl 0 rfl) ?_
      refine mm_get hx hb hts hown hK hP (index := 77) 22 (by decide) mf_M_77 (v := .ref (am 23)) rfl d_M_commitTree_44 ?_
      refine lv_aload_n hx hb d_M_commitTree_47 rfl (lv_at hl 0 rfl) ?_
      refine mm_get hx hb hts hown hK hP (index := 145) 33 (by decide) mf_M_145 (v := .int (nI t)) rfl d_M_commitTree_48 ?_
      refine mm_ald hx hb hK hP 22 (by decide) rfl (t) rfl (show t < 15 from by omega) (k) (hq) d_M_commitTree_51 ?_
      refine lv_istore (lv' := [(4, .int (nI k)), (0, .ref (am 0))]) hx hb d_M_commitTree_52 hl (by decide) rfl (fun ls hl => ?_)
      refine lv_aload_n hx hb d_M_commitTree_54 rfl (lv_at hl 1 rfl) ?_
      refine mm_get hx hb hts hown hK hP (index := 28) 6 (by decide) mf_M_28 (v := .ref (am 7)) rfl d_M_commitTree_55 ?_
      refine lv_iload hx hb d_M_commitTree_58 (lv_at hl 0 rfl) ?_
      refine mm_ald hx hb hK hP 6 (by decide) rfl (k) rfl (show k < 15 from by omega) (kd k) (congrFun h7 k) d_M_commitTree_60 ?_
      refine lv_if_ne (tgt := 92) hx hb d_M_commitTree_61 rfl (fun h61 => ?_) (fun h61 => absurd h61 (by rw [k0]; decide))
      refine lv_aload_n hx hb d_M_commitTree_92 rfl (lv_at hl 1 rfl) ?_
      refine mm_get hx hb hts hown hK hP (index := 28) 6 (by decide) mf_M_28 (v := .ref (am 7)) rfl d_M_commitTree_93 ?_
      refine lv_iload hx hb d_M_commitTree_96 (lv_at hl 0 rfl) ?_
      refine mm_ald hx hb hK hP 6 (by decide) rfl (k) rfl (show k < 15 from by omega) (kd k) (congrFun h7 k) d_M_commitTree_98 ?_
      refine lv_iconst (v := 1) hx hb d_M_commitTree_99 rfl ?_
      refine lv_icmp_ne (tgt := 156) hx hb d_M_commitTree_100 rfl (fun h100 => absurd (by rw [k0]; rfl) h100) (fun h100 => ?_)
      refine lv_aload_n hx hb d_M_commitTree_103 rfl (lv_at hl 1 rfl) ?_
      refine lv_aload_n hx hb d_M_commitTree_104 rfl (lv_at hl 1 rfl) ?_
      refine mm_get hx hb hts hown hK hP (index := 34) 8 (by decide) mf_M_34 (v := .ref (am 9)) rfl d_M_commitTree_105 ?_
      refine lv_iload hx hb d_M_commitTree_108 (lv_at hl 0 rfl) ?_
      refine mm_ald hx hb hK hP 8 (by decide) rfl (k) rfl (show k < 15 from by omega) (rt k) (congrFun h9 k) d_M_commitTree_110 ?_
      refine lv_aload_n hx hb d_M_commitTree_111 rfl (lv_at hl 1 rfl) ?_
      refine mm_get hx hb hts hown hK hP (index := 83) 24 (by decide) mf_M_83 (v := .ref (am 25)) rfl d_M_commitTree_112 ?_
      refine lv_iload hx hb d_M_commitTree_115 (lv_at hl 0 rfl) ?_
      refine mm_zald hx hb hK hP 24 (by decide) rfl (k) rfl (show k < 15 from by omega) (if real then 1 else 0) (hrl) d_M_commitTree_117 ?_
      refine lv_aload_n hx hb d_M_commitTree_118 rfl (lv_at hl 1 rfl) ?_
      refine mm_get hx hb hts hown hK hP (index := 80) 23 (by decide) mf_M_80 (v := .ref (am 24)) rfl d_M_commitTree_119 ?_
      refine lv_iload hx hb d_M_commitTree_122 (lv_at hl 0 rfl) ?_
      refine mm_ald hx hb hK hP 23 (by decide) rfl (k) rfl (show k < 15 from by omega) (c0) (hcc) d_M_commitTree_124 ?_
      refine mm_cv (index := 155) (n := 3) (As := [.int (nI (rt k)), .int (nI (if real then 1 else 0)), .int (nI c0)]) (rest := []) ⟨hx, hb, hml, hown, hts⟩ (k_laterM l D ca am (zs (mix o sc) 0 6 t) hI (rt k) (if real then 1 else 0) c0 (by omega) (if_lt2 real) (show t < 15 by omega)) mk_M_155 mo_M_later me_M_M_later_M mi_M mc_M_later (by decide +kernel) ⟨rfl, rfl⟩ ⟨Nat.le_trans (by decide) hRf, Nat.le_trans (by decide) hRl⟩ hK hP hS hAA rfl hl.1 rfl (Nat.le_of_ble_eq_true rfl) d_M_commitTree_125 ⟨hc, hsl⟩ (fun ar1 H locs hpost hP hS => ?_)
      rw [zs_mixS _ _ _ (by omega), lat_mix] at hpost
      subst hpost
      refine lv_aload_n hx hb d_M_commitTree_128 rfl (lv_at hl 1 rfl) ?_
      refine lv_aload_n hx hb d_M_commitTree_129 rfl (lv_at hl 1 rfl) ?_
      refine mm_get hx hb hts hown hK hP (index := 31) 7 (by decide) mf_M_31 (v := .ref (am 8)) rfl d_M_commitTree_130 ?_
      refine lv_iload hx hb d_M_commitTree_133 (lv_at hl 0 rfl) ?_
      refine mm_ald hx hb hK hP 7 (by decide) rfl (k) rfl (show k < 15 from by omega) (lf k) (congrFun h8 k) d_M_commitTree_135 ?_
      refine lv_aload_n hx hb d_M_commitTree_136 rfl (lv_at hl 1 rfl) ?_
      refine mm_get hx hb hts hown hK hP (index := 83) 24 (by decide) mf_M_83 (v := .ref (am 25)) rfl d_M_commitTree_137 ?_
      refine lv_iload hx hb d_M_commitTree_140 (lv_at hl 0 rfl) ?_
      refine mm_zald hx hb hK hP 24 (by decide) rfl (k) rfl (show k < 15 from by omega) (if real then 1 else 0) (by show lat (zs sc 0 6 t) (rt k) (if real then 1 else 0) c0 25 k = _; rw [lat_25, if_neg (by omega)]; exact hrl) d_M_commitTree_142 ?_
      refine lv_aload_n hx hb d_M_commitTree_143 rfl (lv_at hl 1 rfl) ?_
      refine mm_get hx hb hts hown hK hP (index := 80) 23 (by decide) mf_M_80 (v := .ref (am 24)) rfl d_M_commitTree_144 ?_
      refine lv_iload hx hb d_M_commitTree_147 (lv_at hl 0 rfl) ?_
      refine mm_ald hx hb hK hP 23 (by decide) rfl (k) rfl (show k < 15 from by omega) (c0) (by show lat (zs sc 0 6 t) (rt k) (if real then 1 else 0) c0 24 k = _; rw [lat_24, if_neg (by omega)]; exact hcc) d_M_commitTree_149 ?_
      refine mm_cv (index := 155) (n := 3) (As := [.int (nI (lf k)), .int (nI (if real then 1 else 0)), .int (nI c0)]) (rest := []) ⟨hx, hb, hml, hown, hts⟩ (k_laterM l D ca am (mix o (lat (zs sc 0 6 t) (rt k) (if real then 1 else 0) c0)) hI (lf k) (if real then 1 else 0) c0 (by omega) (if_lt2 real) (by show lat (zs sc 0 6 t) (rt k) (if real then 1 else 0) c0 0 6 < 15; rw [lat_06]; show t + 1 < 15; omega)) mk_M_155 mo_M_later me_M_M_later_M mi_M mc_M_later (by decide +kernel) ⟨rfl, rfl⟩ ⟨Nat.le_trans (by decide) hRf, Nat.le_trans (by decide) hRl⟩ hK hP hS hAA rfl hl.1 rfl (Nat.le_of_ble_eq_true rfl) d_M_commitTree_150 ⟨hc, hsl⟩ (fun ar1 H locs hpost hP hS => ?_)
      rw [lat_mix] at hpost
      subst hpost
      refine lv_goto (tgt := 176) hx hb d_M_commitTree_153 rfl ?_
      refine lv_goto (tgt := 26) hx hb d_M_commitTree_176 rfl ?_
      have hl := lv_sub (l' := [(0, .ref (am 0))]) hl [1] rfl
      obtain ⟨g06, g231, g230, g23, g24l, g25l, g24r, g25r, g45⟩ := lat2 sc t (rt k) (lf k) (if real then 1 else 0) c0 (if real then 1 else 0) c0 (by omega)
      refine ih (lf k) hlk (by omega) (t + 1) real c0 o _ H locs ls (by omega) hc0 hTb g06 g231 g25l g24l hP hS hl (fun sc1 H locs ls e06 e23 e45 hP hS hl => ?_)
      refine ih (rt k) c5 (by omega) t real c0 (cm kd lf rt lv (lf k) real c0 o) sc1 H locs ls (by omega) hc0 (tb_cm hTb _ _ _) e06 ((e23 t (by omega)).trans g230) ((e45 (rt k) (Or.inr (by omega))).2.trans g25r) ((e45 (rt k) (Or.inr (by omega))).1.trans g24r) hP hS hl (fun sc2 H locs ls f06 f23 f45 hP hS hl => ?_)
      refine kk sc2 H locs ls f06 (fun i hi => ?_) (fun i hi => ?_) (by rw [cm_and k0 hlk c5]; exact hP) hS hl
      · rw [f23 i hi, e23 i (by omega), g23 i hi]
      · have a := f45 i (by omega)
        have b := e45 i (by omega)
        have d := g45 i (by omega) (by omega)
        exact ⟨a.1.trans (b.1.trans d.1), a.2.trans (b.2.trans d.2)⟩
    · skip
      obtain ⟨c1, c2, c3, c4, c5⟩ := hch (by rw [k0]; decide)
      have hlk : lf k < k := by omega
      refine lv_aload_n hx hb d_M_commitTree_26 rfl (lv_at hl 0 rfl) ?_
      refine mm_get hx hb hts hown hK hP (index := 145) 33 (by decide) mf_M_145 (v := .int (nI ((mix o sc) 0 6))) rfl d_M_commitTree_27 ?_
      refine zz_as (y := nI (t + 1)) (congrArg nI hsc) ?_
      refine lv_if_le (tgt := 179) hx hb d_M_commitTree_30 rfl (fun h30 => absurd h30 (nI_nle (by omega) (by omega))) (fun h30 => ?_)
      refine lv_aload_n hx hb d_M_commitTree_33 rfl (lv_at hl 0 rfl) ?_
      refine lv_dup hx hb d_M_commitTree_34 rfl ?_
      refine mm_get hx hb hts hown hK hP (index := 145) 33 (by decide) mf_M_145 (v := .int (nI ((mix o sc) 0 6))) rfl d_M_commitTree_35 ?_
      refine zz_as (y := nI (t + 1)) (congrArg nI hsc) ?_
      refine lv_iconst (v := 1) hx hb d_M_commitTree_38 rfl ?_
      refine lv_isub hx hb d_M_commitTree_39 ?_
      refine zz_as (y := nI ((t + 1) - 1)) (pk_sub (a := t + 1) (b := 1) (by omega)) ?_
      refine zz_as (y := nI t) (rfl) ?_
      refine mm_put hx hb hts hown hK hP hD hS (index := 145) 6 (by decide) mf_M_145 (t) (rfl) rfl rfl d_M_commitTree_40 (fun H locs hP hS => ?_)
      refine lv_aload_n hx hb d_M_commitTree_43 rfl (lv_at hl 0 rfl) ?_
      refine mm_get hx hb hts hown hK hP (index := 77) 22 (by decide) mf_M_77 (v := .ref (am 23)) rfl d_M_commitTree_44 ?_
      refine lv_aload_n hx hb d_M_commitTree_47 rfl (lv_at hl 0 rfl) ?_
      refine mm_get hx hb hts hown hK hP (index := 145) 33 (by decide) mf_M_145 (v := .int (nI t)) rfl d_M_commitTree_48 ?_
      refine mm_ald hx hb hK hP 22 (by decide) rfl (t) rfl (show t < 15 from by omega) (k) (hq) d_M_commitTree_51 ?_
      refine lv_istore (lv' := [(4, .int (nI k)), (0, .ref (am 0))]) hx hb d_M_commitTree_52 hl (by decide) rfl (fun ls hl => ?_)
      refine lv_aload_n hx hb d_M_commitTree_54 rfl (lv_at hl 1 rfl) ?_
      refine mm_get hx hb hts hown hK hP (index := 28) 6 (by decide) mf_M_28 (v := .ref (am 7)) rfl d_M_commitTree_55 ?_
      refine lv_iload hx hb d_M_commitTree_58 (lv_at hl 0 rfl) ?_
      refine mm_ald hx hb hK hP 6 (by decide) rfl (k) rfl (show k < 15 from by omega) (kd k) (congrFun h7 k) d_M_commitTree_60 ?_
      refine lv_if_ne (tgt := 92) hx hb d_M_commitTree_61 rfl (fun h61 => ?_) (fun h61 => absurd h61 (by rw [k0]; decide))
      refine lv_aload_n hx hb d_M_commitTree_92 rfl (lv_at hl 1 rfl) ?_
      refine mm_get hx hb hts hown hK hP (index := 28) 6 (by decide) mf_M_28 (v := .ref (am 7)) rfl d_M_commitTree_93 ?_
      refine lv_iload hx hb d_M_commitTree_96 (lv_at hl 0 rfl) ?_
      refine mm_ald hx hb hK hP 6 (by decide) rfl (k) rfl (show k < 15 from by omega) (kd k) (congrFun h7 k) d_M_commitTree_98 ?_
      refine lv_iconst (v := 1) hx hb d_M_commitTree_99 rfl ?_
      refine lv_icmp_ne (tgt := 156) hx hb d_M_commitTree_100 rfl (fun h100 => ?_) (fun h100 => absurd h100 (by rw [k0]; decide))
      refine lv_aload_n hx hb d_M_commitTree_156 rfl (lv_at hl 1 rfl) ?_
      refine lv_iload hx hb d_M_commitTree_157 (lv_at hl 0 rfl) ?_
      refine lv_aload_n hx hb d_M_commitTree_159 rfl (lv_at hl 1 rfl) ?_
      refine mm_get hx hb hts hown hK hP (index := 83) 24 (by decide) mf_M_83 (v := .ref (am 25)) rfl d_M_commitTree_160 ?_
      refine lv_iload hx hb d_M_commitTree_163 (lv_at hl 0 rfl) ?_
      refine mm_zald hx hb hK hP 24 (by decide) rfl (k) rfl (show k < 15 from by omega) (if real then 1 else 0) (hrl) d_M_commitTree_165 ?_
      refine zz_as (y := zb real) (zb_if real) ?_
      refine lv_aload_n hx hb d_M_commitTree_166 rfl (lv_at hl 1 rfl) ?_
      refine mm_get hx hb hts hown hK hP (index := 80) 23 (by decide) mf_M_80 (v := .ref (am 24)) rfl d_M_commitTree_167 ?_
      refine lv_iload hx hb d_M_commitTree_170 (lv_at hl 0 rfl) ?_
      refine mm_ald hx hb hK hP 23 (by decide) rfl (k) rfl (show k < 15 from by omega) (c0) (hcc) d_M_commitTree_172 ?_
      refine mm_cv (index := 162) (n := 3) (As := [.int (nI k), .int (zb real), .int (nI c0)]) (rest := []) ⟨hx, hb, hml, hown, hts⟩ (k_commitOrM l D ca am (zs (mix o sc) 0 6 t) hI k real c0 (by omega) (show o 8 k < k ∧ o 9 k < k by rw [h8, h9]; omega) (show o 27 (o 8 k) < 2 by rw [h8, h27]; exact hhd _ (by omega)) hc0 (show t + 1 < 15 by omega)) mk_M_162 mo_M_commitOr me_M_M_commitOr_M mi_M mc_M_commitOr (by decide +kernel) ⟨rfl, rfl⟩ ⟨Nat.le_trans (by decide) hRf, Nat.le_trans (by decide) hRl⟩ hK hP hS hAA rfl hl.1 rfl (Nat.le_of_ble_eq_true rfl) d_M_commitTree_173 ⟨hc, hsl⟩ (fun ar1 H locs hpost hP hS => ?_)
      rw [zs_mixS _ _ _ (by omega), cOr_mix, h8, h9, h27] at hpost
      subst hpost
      refine lv_goto (tgt := 26) hx hb d_M_commitTree_176 rfl ?_
      have hl := lv_sub (l' := [(0, .ref (am 0))]) hl [1] rfl
      obtain ⟨g06, g231, g230, g23, g24l, g25l, g24r, g25r, g45⟩ := lat2 sc t (rt k) (lf k) (if real && !(real && decide (hd (lf k) = 1)) then 1 else 0) (if real then dv (dr (o 0 5)) else ls5 c0 (dv (dr (o 0 5)))) (if real && decide (hd (lf k) = 1) then 1 else 0) (dv (dr (o 0 5))) (by omega)
      refine ih (lf k) hlk (by omega) (t + 1) (real && decide (hd (lf k) = 1)) (dv (dr (o 0 5))) (cmO k (real && decide (hd (lf k) = 1)) o) _ H locs ls (by omega) (dv_lt _) (tb_cmO hTb _ _) g06 g231 g25l g24l hP hS hl (fun sc1 H locs ls e06 e23 e45 hP hS hl => ?_)
      refine ih (rt k) c5 (by omega) t (real && !(real && decide (hd (lf k) = 1))) (if real then dv (dr (o 0 5)) else ls5 c0 (dv (dr (o 0 5)))) (cm kd lf rt lv (lf k) (real && decide (hd (lf k) = 1)) (dv (dr (o 0 5))) (cmO k (real && decide (hd (lf k) = 1)) o)) sc1 H locs ls (by omega) (by split; exact dv_lt _; exact ls5_lt _ _) (tb_cm (tb_cmO hTb _ _) _ _ _) e06 ((e23 t (by omega)).trans g230) ((e45 (rt k) (Or.inr (by omega))).2.trans g25r) ((e45 (rt k) (Or.inr (by omega))).1.trans g24r) hP hS hl (fun sc2 H locs ls f06 f23 f45 hP hS hl => ?_)
      refine kk sc2 H locs ls f06 (fun i hi => ?_) (fun i hi => ?_) (by rw [cm_or5 k0 hlk c5, h27]; exact hP) hS hl
      · rw [f23 i hi, e23 i (by omega), g23 i hi]
      · have a := f45 i (by omega)
        have b := e45 i (by omega)
        have d := g45 i (by omega) (by omega)
        exact ⟨a.1.trans (b.1.trans d.1), a.2.trans (b.2.trans d.2)⟩
end MT

set_option maxHeartbeats 4000000 in
set_option maxRecDepth 100000 in
/-- commitTree(real, c, seed) -/
theorem k_commitTreeM (l : Launch) (D : va_G) (ca : Nat → ClassId) (am : Nat → Nat) (ar : Nat → Nat → Nat) (hI : mI am) (real : Bool) (c0 sd : Nat) (lo : Nat → Nat) (hT : tT ar) (hsz : 0 < ar 0 1) (hw : ∀ i, i < 8 → ar 13 i < 2 ^ 32) (hI2 : tI (ar 7) (ar 8) (ar 9) lo (ar 0 1)) (hc0 : c0 < 5003) (hbs : ∀ i, i < 16 → ar 11 i < 10007) (his : ∀ i, i < 16 → ar 12 i < 10007) : Met l y_M_commitTree (Cond.code y_M_commitTree c_M_commitTree 5 none :: zT) ({ frames := 5, cells := 0, slots := 0, locals := 200 }) (va_Pc [.ref (am 0), .int (zb real), .int (nI c0), .int (nI sd)] (mw D ca am ar)) (va_Qv (fun ar1 => ∃ (h : Nat → Nat) (sc : Nat → Nat → Nat), kOK ar h (ar 0 1) ∧ (∀ k, k < ar 0 1 → h k < 2) ∧ ar1 = mix (cm (ar 7) (ar 8) (ar 9) (ar 10) (ar 0 1 - 1) real c0 (va_up (zs ar 0 5 sd) 27 h)) sc) (mw D ca am) (mA am)) 0 0 (mA am) := by
  refine Met.ofW (cc := c_M_commitTree) (maxL := 5) (ret := none) (by decide) rfl ?_
  intro p e s m args below meth c s₁ B hml hv
  obtain ⟨rfl, hK, hP⟩ := hv
  have hx := B.exec
  have hb := B.bytes
  have hr := B.returns
  have hts0 := atoms_spec (ws := Cond.code y_M_commitTree c_M_commitTree 5 none :: zT) B.pre
  have hts := fun w h => hts0 w (List.mem_cons_of_mem _ h)
  have hown : s.vm.findClass R_M = some m.cls := findClass_of_methodNamed B.named
  have hlocks := B.notSynchronized
  have hD := mI_D hI
  have hS : va_S (mA am) s.heap s.heap [] := va_S.rf
  have hAA : ∀ q, mA am q → mA am q := fun _ h => h
  have hl := lv_entry ([.ref (am 0), .int (zb real), .int (nI c0), .int (nI sd)]) (n := 5) (Nat.le_of_ble_eq_true rfl)
  rw [lg_entry_eq]
  generalize (lg_sl ([.ref (am 0), .int (zb real), .int (nI c0), .int (nI sd)]) ++ List.replicate (5 - (lg_sl ([.ref (am 0), .int (zb real), .int (nI c0), .int (nI sd)])).length) Slot.unset).toArray = ls at hl ⊢
  have hl : lv_has ls 5 [(0, .ref (am 0)), (1, .int (zb real)), (2, .int (nI c0)), (3, .int (nI sd))] := hl
  skip
  obtain ⟨hs1, hl2, hT2⟩ := id hT
  rw [← zb_if real] at hl
  refine lv_aload_n hx hb d_M_commitTree_0 rfl (lv_at hl 0 rfl) ?_
  refine lv_iload_n hx hb d_M_commitTree_1 rfl (lv_at hl 3 rfl) ?_
  refine mm_put hx hb hts hown hK hP hD hS (index := 104) 5 (by decide) mf_M_104 (sd) (rfl) rfl rfl d_M_commitTree_2 (fun H locs hP hS => ?_)
  refine lv_aload_n hx hb d_M_commitTree_5 rfl (lv_at hl 0 rfl) ?_
  refine mm_cv (index := 142) (n := 0) (As := []) (rest := []) ⟨hx, hb, hml, hown, hts⟩ (k_knowM l D ca am (zs ar 0 5 sd) hI hT hw) mk_M_142 mo_M_know me_M_M_know_M mi_M mc_M_know (by decide +kernel) ⟨rfl, rfl⟩ ⟨by decide, by decide⟩ hK hP hS hAA rfl hl.1 rfl (Nat.le_of_ble_eq_true rfl) d_M_commitTree_6 ⟨Nat.zero_le _, Nat.zero_le _⟩ (fun ar1 H locs hpost hP hS => ?_)
  obtain ⟨h, hk, hh, rfl⟩ := hpost
  refine lv_aload_n hx hb d_M_commitTree_9 rfl (lv_at hl 0 rfl) ?_
  refine lv_iconst (v := 0) hx hb d_M_commitTree_10 rfl ?_
  refine mm_put hx hb hts hown hK hP hD hS (index := 145) 6 (by decide) mf_M_145 (0) (rfl) rfl rfl d_M_commitTree_11 (fun H locs hP hS => ?_)
  refine lv_aload_n hx hb d_M_commitTree_14 rfl (lv_at hl 0 rfl) ?_
  refine lv_aload_n hx hb d_M_commitTree_15 rfl (lv_at hl 0 rfl) ?_
  refine mm_get hx hb hts hown hK hP (index := 122) 28 (by decide) mf_M_122 (v := .int (nI (ar 0 1))) rfl d_M_commitTree_16 ?_
  refine lv_iconst (v := 1) hx hb d_M_commitTree_19 rfl ?_
  refine lv_isub hx hb d_M_commitTree_20 ?_
  refine zz_as (y := nI ((ar 0 1) - 1)) (pk_sub (a := ar 0 1) (b := 1) (by omega)) ?_
  refine lv_iload_n hx hb d_M_commitTree_21 rfl (lv_at hl 1 rfl) ?_
  refine lv_iload_n hx hb d_M_commitTree_22 rfl (lv_at hl 2 rfl) ?_
  refine mm_cv (index := 155) (n := 3) (As := [.int (nI (ar 0 1 - 1)), .int (nI (if real then 1 else 0)), .int (nI c0)]) (rest := []) ⟨hx, hb, hml, hown, hts⟩ (k_laterM l D ca am (zs (va_up (zs ar 0 5 sd) 27 h) 0 6 0) hI (ar 0 1 - 1) (if real then 1 else 0) c0 (by omega) (if_lt2 real) (show 0 < 15 by decide)) mk_M_155 mo_M_later me_M_M_later_M mi_M mc_M_later (by decide +kernel) ⟨rfl, rfl⟩ ⟨by decide, by decide⟩ hK hP hS hAA rfl hl.1 rfl (Nat.le_of_ble_eq_true rfl) d_M_commitTree_23 ⟨Nat.zero_le _, Nat.zero_le _⟩ (fun ar1 H locs hpost hP hS => ?_)
  rw [show zs (va_up (zs ar 0 5 sd) 27 h) 0 6 0 = mix (va_up (zs ar 0 5 sd) 27 h) (zs (va_up (zs ar 0 5 sd) 27 h) 0 6 0) by rw [← zs_mixS _ _ _ (by omega), mix_self], lat_mix] at hpost
  subst hpost
  have hl : lv_has ls 5 [(0, .ref (am 0))] := lv_sub hl [0] rfl
  refine ct_node (N := ar 0 1) (lc := ar 0 2) (kd := ar 7) (lf := ar 8) (rt := ar 9) (lv := ar 10) (bt := ar 11) (it := ar 12) (hd := h) (lo := lo) hx hb hml hown hts hK hD hI hAA (by decide) (by decide) (Nat.zero_le _) (Nat.zero_le _) hs1 hl2 hI2 (fun k q => (hT2 k q).2.1) hbs his hh (ar 0 1 - 1) (by omega) 0 real c0 (va_up (zs ar 0 5 sd) 27 h) (lat (zs (va_up (zs ar 0 5 sd) 27 h) 0 6 0) (ar 0 1 - 1) (if real then 1 else 0) c0) H locs ls (by omega) hc0 ⟨rfl, rfl, rfl, rfl, rfl, rfl, rfl, rfl⟩ (by rw [lat_06]; rfl) (by rw [lat_23, zs_eq, if_pos rfl]) (by rw [lat_25, if_pos rfl]) (by rw [lat_24, if_pos rfl]) hP hS hl (fun sc1 H locs ls e06 e23 e45 hP hS hl => ?_)
  refine lv_aload_n hx hb d_M_commitTree_26 rfl (lv_at hl 0 rfl) ?_
  refine mm_get hx hb hts hown hK hP (index := 145) 33 (by decide) mf_M_145 (v := .int (nI ((mix (cm (ar 7) (ar 8) (ar 9) (ar 10) (ar 0 1 - 1) real c0 (va_up (zs ar 0 5 sd) 27 h)) sc1) 0 6))) rfl d_M_commitTree_27 ?_
  refine zz_as (y := nI 0) (congrArg nI e06) ?_
  refine lv_if_le (tgt := 179) hx hb d_M_commitTree_30 rfl (fun h30 => ?_) (fun h30 => absurd (by decide) h30)
  exact W.vret hx hb hr (fun t ht hW => ⟨⟨mix (cm (ar 7) (ar 8) (ar 9) (ar 10) (ar 0 1 - 1) real c0 (va_up (zs ar 0 5 sd) 27 h)) sc1, rfl, ⟨h, sc1, hk, hh, rfl⟩, va_K.moved hW.alike hK, by rw [ht]; exact hP⟩, hS.F ht⟩) hS.2.2 d_M_commitTree_179
end
section
/-! the model's respondTree, commit, respond, simulate -/
def tr (kd lf rt lv lr dn wi no : Nat → Nat) (o : Nat → Nat → Nat) : Prop := o 7 = kd ∧ o 8 = lf ∧ o 9 = rt ∧ o 10 = lv ∧ o 21 = lr ∧ o 22 = dn ∧ o 13 = wi ∧ o 20 = no
theorem tr_rq {kd lf rt lv lr dn wi no : Nat → Nat} {o : Nat → Nat → Nat} (h : tr kd lf rt lv lr dn wi no o) (ord : Bool) (k c : Nat) : tr kd lf rt lv lr dn wi no (rq ord kd lf rt lv lr dn k c o) := by
  obtain ⟨h1, h2, h3, h4, h5, h6, h7, h8⟩ := h
  refine ⟨?_, ?_, ?_, ?_, ?_, ?_, ?_, ?_⟩
  · rw [rq_row (by decide) (by decide)]; exact h1
  · rw [rq_row (by decide) (by decide)]; exact h2
  · rw [rq_row (by decide) (by decide)]; exact h3
  · rw [rq_row (by decide) (by decide)]; exact h4
  · rw [rq_row (by decide) (by decide)]; exact h5
  · rw [rq_row (by decide) (by decide)]; exact h6
  · rw [rq_row (by decide) (by decide)]; exact h7
  · rw [rq_row (by decide) (by decide)]; exact h8
/-- a set of nodes that respond goes through: closed downwards along the real side, all that it reads is in range -/
def gC (kd lf rt lv lr dn wi no : Nat → Nat) (N : Nat) (G : Nat → Prop) : Prop := ∀ k, k < N → G k → (kd k = 0 → wi (lv k) < 5003 ∧ no (lv k) < 5003) ∧ (kd k = 1 → G (lf k) ∧ G (rt k)) ∧ (kd k = 2 → dn k < 5003 ∧ lr k < 2 ∧ (lr k = 1 → G (lf k)) ∧ (lr k ≠ 1 → G (rt k)))
theorem va_up_zs (ar : Nat → Nat → Nat) (h h2 : Nat → Nat) (sd : Nat) : va_up (zs (va_up ar 27 h) 0 5 sd) 27 h2 = va_up (zs ar 0 5 sd) 27 h2 := by
  funext j
  by_cases e : j = 27
  · subst e; rw [va_up_self, va_up_self]
  · rw [va_up_ne _ _ e, va_up_ne _ _ e]
    unfold zs
    by_cases e0 : j = 0
    · subst e0; rw [va_up_self, va_up_self, va_up_ne _ _ (by decide)]
    · rw [va_up_ne _ _ e0, va_up_ne _ _ e0, va_up_ne _ _ e]

theorem d_M_respondTree_0 : decode c_M_respondTree 0 = .ok (.aload_n 0, 1) := by decide +kernel
theorem d_M_respondTree_1 : decode c_M_respondTree 1 = .ok (.iconst 0, 1) := by decide +kernel
theorem d_M_respondTree_2 : decode c_M_respondTree 2 = .ok (.putfield 145, 3) := by decide +kernel
theorem d_M_respondTree_5 : decode c_M_respondTree 5 = .ok (.aload_n 0, 1) := by decide +kernel
theorem d_M_respondTree_6 : decode c_M_respondTree 6 = .ok (.aload_n 0, 1) := by decide +kernel
theorem d_M_respondTree_7 : decode c_M_respondTree 7 = .ok (.getfield 122, 3) := by decide +kernel
theorem d_M_respondTree_10 : decode c_M_respondTree 10 = .ok (.iconst 1, 1) := by decide +kernel
theorem d_M_respondTree_11 : decode c_M_respondTree 11 = .ok (.isub, 1) := by decide +kernel
theorem d_M_respondTree_12 : decode c_M_respondTree 12 = .ok (.iconst 1, 1) := by decide +kernel
theorem d_M_respondTree_13 : decode c_M_respondTree 13 = .ok (.iload_n 1, 1) := by decide +kernel
theorem d_M_respondTree_14 : decode c_M_respondTree 14 = .ok (.invokevirtual 155, 3) := by decide +kernel
theorem d_M_respondTree_17 : decode c_M_respondTree 17 = .ok (.aload_n 0, 1) := by decide +kernel
theorem d_M_respondTree_18 : decode c_M_respondTree 18 = .ok (.getfield 145, 3) := by decide +kernel
theorem d_M_respondTree_21 : decode c_M_respondTree 21 = .ok (.ifCond .le 145, 3) := by decide +kernel
theorem d_M_respondTree_24 : decode c_M_respondTree 24 = .ok (.aload_n 0, 1) := by decide +kernel
theorem d_M_respondTree_25 : decode c_M_respondTree 25 = .ok (.dup, 1) := by decide +kernel
theorem d_M_respondTree_26 : decode c_M_respondTree 26 = .ok (.getfield 145, 3) := by decide +kernel
theorem d_M_respondTree_29 : decode c_M_respondTree 29 = .ok (.iconst 1, 1) := by decide +kernel
theorem d_M_respondTree_30 : decode c_M_respondTree 30 = .ok (.isub, 1) := by decide +kernel
theorem d_M_respondTree_31 : decode c_M_respondTree 31 = .ok (.putfield 145, 3) := by decide +kernel
theorem d_M_respondTree_34 : decode c_M_respondTree 34 = .ok (.aload_n 0, 1) := by decide +kernel
theorem d_M_respondTree_35 : decode c_M_respondTree 35 = .ok (.getfield 77, 3) := by decide +kernel
theorem d_M_respondTree_38 : decode c_M_respondTree 38 = .ok (.aload_n 0, 1) := by decide +kernel
theorem d_M_respondTree_39 : decode c_M_respondTree 39 = .ok (.getfield 145, 3) := by decide +kernel
theorem d_M_respondTree_42 : decode c_M_respondTree 42 = .ok (.iaload, 1) := by decide +kernel
theorem d_M_respondTree_43 : decode c_M_respondTree 43 = .ok (.istore_n 2, 1) := by decide +kernel
theorem d_M_respondTree_44 : decode c_M_respondTree 44 = .ok (.aload_n 0, 1) := by decide +kernel
theorem d_M_respondTree_45 : decode c_M_respondTree 45 = .ok (.getfield 28, 3) := by decide +kernel
theorem d_M_respondTree_48 : decode c_M_respondTree 48 = .ok (.iload_n 2, 1) := by decide +kernel
theorem d_M_respondTree_49 : decode c_M_respondTree 49 = .ok (.iaload, 1) := by decide +kernel
theorem d_M_respondTree_50 : decode c_M_respondTree 50 = .ok (.ifCond .ne 22, 3) := by decide +kernel
theorem d_M_respondTree_53 : decode c_M_respondTree 53 = .ok (.aload_n 0, 1) := by decide +kernel
theorem d_M_respondTree_54 : decode c_M_respondTree 54 = .ok (.aload_n 0, 1) := by decide +kernel
theorem d_M_respondTree_55 : decode c_M_respondTree 55 = .ok (.getfield 37, 3) := by decide +kernel
theorem d_M_respondTree_58 : decode c_M_respondTree 58 = .ok (.iload_n 2, 1) := by decide +kernel
theorem d_M_respondTree_59 : decode c_M_respondTree 59 = .ok (.iaload, 1) := by decide +kernel
theorem d_M_respondTree_60 : decode c_M_respondTree 60 = .ok (.aload_n 0, 1) := by decide +kernel
theorem d_M_respondTree_61 : decode c_M_respondTree 61 = .ok (.getfield 80, 3) := by decide +kernel
theorem d_M_respondTree_64 : decode c_M_respondTree 64 = .ok (.iload_n 2, 1) := by decide +kernel
theorem d_M_respondTree_65 : decode c_M_respondTree 65 = .ok (.iaload, 1) := by decide +kernel
theorem d_M_respondTree_66 : decode c_M_respondTree 66 = .ok (.invokevirtual 165, 3) := by decide +kernel
theorem d_M_respondTree_69 : decode c_M_respondTree 69 = .ok (.goto 94, 3) := by decide +kernel
theorem d_M_respondTree_72 : decode c_M_respondTree 72 = .ok (.aload_n 0, 1) := by decide +kernel
theorem d_M_respondTree_73 : decode c_M_respondTree 73 = .ok (.getfield 28, 3) := by decide +kernel
theorem d_M_respondTree_76 : decode c_M_respondTree 76 = .ok (.iload_n 2, 1) := by decide +kernel
theorem d_M_respondTree_77 : decode c_M_respondTree 77 = .ok (.iaload, 1) := by decide +kernel
theorem d_M_respondTree_78 : decode c_M_respondTree 78 = .ok (.iconst 1, 1) := by decide +kernel
theorem d_M_respondTree_79 : decode c_M_respondTree 79 = .ok (.if_icmp .ne 40, 3) := by decide +kernel
theorem d_M_respondTree_82 : decode c_M_respondTree 82 = .ok (.aload_n 0, 1) := by decide +kernel
theorem d_M_respondTree_83 : decode c_M_respondTree 83 = .ok (.aload_n 0, 1) := by decide +kernel
theorem d_M_respondTree_84 : decode c_M_respondTree 84 = .ok (.getfield 31, 3) := by decide +kernel
theorem d_M_respondTree_87 : decode c_M_respondTree 87 = .ok (.iload_n 2, 1) := by decide +kernel
theorem d_M_respondTree_88 : decode c_M_respondTree 88 = .ok (.iaload, 1) := by decide +kernel
theorem d_M_respondTree_89 : decode c_M_respondTree 89 = .ok (.iconst 1, 1) := by decide +kernel
theorem d_M_respondTree_90 : decode c_M_respondTree 90 = .ok (.aload_n 0, 1) := by decide +kernel
theorem d_M_respondTree_91 : decode c_M_respondTree 91 = .ok (.getfield 80, 3) := by decide +kernel
theorem d_M_respondTree_94 : decode c_M_respondTree 94 = .ok (.iload_n 2, 1) := by decide +kernel
theorem d_M_respondTree_95 : decode c_M_respondTree 95 = .ok (.iaload, 1) := by decide +kernel
theorem d_M_respondTree_96 : decode c_M_respondTree 96 = .ok (.invokevirtual 155, 3) := by decide +kernel
theorem d_M_respondTree_99 : decode c_M_respondTree 99 = .ok (.aload_n 0, 1) := by decide +kernel
theorem d_M_respondTree_100 : decode c_M_respondTree 100 = .ok (.aload_n 0, 1) := by decide +kernel
theorem d_M_respondTree_101 : decode c_M_respondTree 101 = .ok (.getfield 34, 3) := by decide +kernel
theorem d_M_respondTree_104 : decode c_M_respondTree 104 = .ok (.iload_n 2, 1) := by decide +kernel
theorem d_M_respondTree_105 : decode c_M_respondTree 105 = .ok (.iaload, 1) := by decide +kernel
theorem d_M_respondTree_106 : decode c_M_respondTree 106 = .ok (.iconst 1, 1) := by decide +kernel
theorem d_M_respondTree_107 : decode c_M_respondTree 107 = .ok (.aload_n 0, 1) := by decide +kernel
theorem d_M_respondTree_108 : decode c_M_respondTree 108 = .ok (.getfield 80, 3) := by decide +kernel
theorem d_M_respondTree_111 : decode c_M_respondTree 111 = .ok (.iload_n 2, 1) := by decide +kernel
theorem d_M_respondTree_112 : decode c_M_respondTree 112 = .ok (.iaload, 1) := by decide +kernel
theorem d_M_respondTree_113 : decode c_M_respondTree 113 = .ok (.invokevirtual 155, 3) := by decide +kernel
theorem d_M_respondTree_116 : decode c_M_respondTree 116 = .ok (.goto 47, 3) := by decide +kernel
theorem d_M_respondTree_119 : decode c_M_respondTree 119 = .ok (.aload_n 0, 1) := by decide +kernel
theorem d_M_respondTree_120 : decode c_M_respondTree 120 = .ok (.aload_n 0, 1) := by decide +kernel
theorem d_M_respondTree_121 : decode c_M_respondTree 121 = .ok (.getfield 70, 3) := by decide +kernel
theorem d_M_respondTree_124 : decode c_M_respondTree 124 = .ok (.iload_n 2, 1) := by decide +kernel
theorem d_M_respondTree_125 : decode c_M_respondTree 125 = .ok (.baload, 1) := by decide +kernel
theorem d_M_respondTree_126 : decode c_M_respondTree 126 = .ok (.ifCond .eq 12, 3) := by decide +kernel
theorem d_M_respondTree_129 : decode c_M_respondTree 129 = .ok (.aload_n 0, 1) := by decide +kernel
theorem d_M_respondTree_130 : decode c_M_respondTree 130 = .ok (.getfield 31, 3) := by decide +kernel
theorem d_M_respondTree_133 : decode c_M_respondTree 133 = .ok (.iload_n 2, 1) := by decide +kernel
theorem d_M_respondTree_134 : decode c_M_respondTree 134 = .ok (.iaload, 1) := by decide +kernel
theorem d_M_respondTree_135 : decode c_M_respondTree 135 = .ok (.goto 9, 3) := by decide +kernel
theorem d_M_respondTree_138 : decode c_M_respondTree 138 = .ok (.aload_n 0, 1) := by decide +kernel
theorem d_M_respondTree_139 : decode c_M_respondTree 139 = .ok (.getfield 34, 3) := by decide +kernel
theorem d_M_respondTree_142 : decode c_M_respondTree 142 = .ok (.iload_n 2, 1) := by decide +kernel
theorem d_M_respondTree_143 : decode c_M_respondTree 143 = .ok (.iaload, 1) := by decide +kernel
theorem d_M_respondTree_144 : decode c_M_respondTree 144 = .ok (.iconst 1, 1) := by decide +kernel
theorem d_M_respondTree_145 : decode c_M_respondTree 145 = .ok (.aload_n 0, 1) := by decide +kernel
theorem d_M_respondTree_146 : decode c_M_respondTree 146 = .ok (.getfield 80, 3) := by decide +kernel
theorem d_M_respondTree_149 : decode c_M_respondTree 149 = .ok (.iload_n 2, 1) := by decide +kernel
theorem d_M_respondTree_150 : decode c_M_respondTree 150 = .ok (.iaload, 1) := by decide +kernel
theorem d_M_respondTree_151 : decode c_M_respondTree 151 = .ok (.aload_n 0, 1) := by decide +kernel
theorem d_M_respondTree_152 : decode c_M_respondTree 152 = .ok (.getfield 74, 3) := by decide +kernel
theorem d_M_respondTree_155 : decode c_M_respondTree 155 = .ok (.iload_n 2, 1) := by decide +kernel
theorem d_M_respondTree_156 : decode c_M_respondTree 156 = .ok (.iaload, 1) := by decide +kernel
theorem d_M_respondTree_157 : decode c_M_respondTree 157 = .ok (.invokestatic 152, 3) := by decide +kernel
theorem d_M_respondTree_160 : decode c_M_respondTree 160 = .ok (.invokevirtual 155, 3) := by decide +kernel
theorem d_M_respondTree_163 : decode c_M_respondTree 163 = .ok (.goto (-146), 3) := by decide +kernel
theorem d_M_respondTree_166 : decode c_M_respondTree 166 = .ok (.return_, 1) := by decide +kernel

section MS
variable {p : Program} {l : Launch} {e : Env} {R : Room} {s : State} {m : MethodId} {args : Array Value} {below : List Frame} {meth : Method} {c : Code} {H0 : Heap} {cells slots : Nat} {Q : State → Prop} {A : Nat → Prop} {D : va_G} {ca : Nat → ClassId} {am : Nat → Nat} {ar : Nat → Nat → Nat}
set_option maxHeartbeats 4000000 in
set_option maxRecDepth 100000 in
theorem rt_node (hx : p.tables.exec = Jvm.exec) (hb : c.code = c_M_respondTree) (hml : c.maxLocals = 3) (hown : s.vm.findClass R_M = some m.cls) (hts : ∀ w ∈ zT, w.before args s = true) (hK : va_K D zC (zty ca) s) (hD : zD A 28 am) (hI : mI am) (hAA : ∀ q, mA am q → A q) (hRf : 3 ≤ R.frames) (hRl : 120 ≤ R.locals) (hc : cells ≤ R.cells) (hsl : slots ≤ R.slots) {N : Nat} {kd lf rt lv lr dn wi no : Nat → Nat} {lo : Nat → Nat} {G : Nat → Prop} (hN : N ≤ 15) (hI2 : tI kd lf rt lo N) (hlv : ∀ k, k < N → kd k = 0 → lv k < 8) (hG : gC kd lf rt lv lr dn wi no N G) : ∀ (k : Nat), k < N → G k → ∀ (t : Nat) (c0 : Nat) (o sc : Nat → Nat → Nat) (H : Heap) (locs : List Loc) (ls : Array Slot), t + k ≤ 14 → c0 < 5003 → tr kd lf rt lv lr dn wi no o → sc 0 6 = t + 1 → sc 23 t = k → sc 24 k = c0 → va_P D zC (zl 28 am (mct ca am (mix o sc))) H → va_S A H0 H locs → lv_has ls 3 [(0, .ref (am 0))] →
    (∀ (sc1 : Nat → Nat → Nat) (H : Heap) (locs : List Loc) (ls : Array Slot), sc1 0 6 = t → (∀ i, i < t → sc1 23 i = sc 23 i) → (∀ i, i < lo k ∨ k ≤ i → sc1 24 i = sc 24 i) → va_P D zC (zl 28 am (mct ca am (mix (rq false kd lf rt lv lr dn k c0 o) sc1))) H → va_S A H0 H locs → lv_has ls 3 [(0, .ref (am 0))] → W p l e R s m args below meth c H locs cells slots Q (F0 m 17 ls [])) → W p l e R s m args below meth c H locs cells slots Q (F0 m 17 ls []) := by
  intro k
  induction k using Nat.strongRecOn with
  | ind k ih =>
    intro hk gk t c0 o sc H locs ls htk hc0 hTb hsc hq hcc hP hS hl kk
    obtain ⟨hkd, hlo, hch⟩ := hI2 k hk
    obtain ⟨q0, q1, q2⟩ := hG k hk gk
    obtain ⟨h7, h8, h9, h10, r21, r22, h13, h20⟩ := id hTb
    rcases (show kd k = 0 ∨ kd k = 1 ∨ kd k = 2 by omega) with k0 | k0 | k0
    · skip
      have hlvk := hlv k hk k0
      obtain ⟨hw1, hn1⟩ := q0 k0
      refine lv_aload_n hx hb d_M_respondTree_17 rfl (lv_at hl 0 rfl) ?_
      refine mm_get hx hb hts hown hK hP (index := 145) 33 (by decide) mf_M_145 (v := .int (nI ((mix o sc) 0 6))) rfl d_M_respondTree_18 ?_
      refine zz_as (y := nI (t + 1)) (congrArg nI hsc) ?_
      refine lv_if_le (tgt := 166) hx hb d_M_respondTree_21 rfl (fun h21 => absurd h21 (nI_nle (by omega) (by omega))) (fun h21 => ?_)
      refine lv_aload_n hx hb d_M_respondTree_24 rfl (lv_at hl 0 rfl) ?_
      refine lv_dup hx hb d_M_respondTree_25 rfl ?_
      refine mm_get hx hb hts hown hK hP (index := 145) 33 (by decide) mf_M_145 (v := .int (nI ((mix o sc) 0 6))) rfl d_M_respondTree_26 ?_
      refine zz_as (y := nI (t + 1)) (congrArg nI hsc) ?_
      refine lv_iconst (v := 1) hx hb d_M_respondTree_29 rfl ?_
      refine lv_isub hx hb d_M_respondTree_30 ?_
      refine zz_as (y := nI ((t + 1) - 1)) (pk_sub (a := t + 1) (b := 1) (by omega)) ?_
      refine zz_as (y := nI t) (rfl) ?_
      refine mm_put hx hb hts hown hK hP hD hS (index := 145) 6 (by decide) mf_M_145 (t) (rfl) rfl rfl d_M_respondTree_31 (fun H locs hP hS => ?_)
      refine lv_aload_n hx hb d_M_respondTree_34 rfl (lv_at hl 0 rfl) ?_
      refine mm_get hx hb hts hown hK hP (index := 77) 22 (by decide) mf_M_77 (v := .ref (am 23)) rfl d_M_respondTree_35 ?_
      refine lv_aload_n hx hb d_M_respondTree_38 rfl (lv_at hl 0 rfl) ?_
      refine mm_get hx hb hts hown hK hP (index := 145) 33 (by decide) mf_M_145 (v := .int (nI t)) rfl d_M_respondTree_39 ?_
      refine mm_ald hx hb hK hP 22 (by decide) rfl (t) rfl (show t < 15 from by omega) (k) (hq) d_M_respondTree_42 ?_
      refine lv_istore_n (lv' := [(2, .int (nI k)), (0, .ref (am 0))]) hx hb d_M_respondTree_43 rfl hl (by decide) rfl (fun ls hl => ?_)
      refine lv_aload_n hx hb d_M_respondTree_44 rfl (lv_at hl 1 rfl) ?_
      refine mm_get hx hb hts hown hK hP (index := 28) 6 (by decide) mf_M_28 (v := .ref (am 7)) rfl d_M_respondTree_45 ?_
      refine lv_iload_n hx hb d_M_respondTree_48 rfl (lv_at hl 0 rfl) ?_
      refine mm_ald hx hb hK hP 6 (by decide) rfl (k) rfl (show k < 15 from by omega) (kd k) (congrFun h7 k) d_M_respondTree_49 ?_
      refine lv_if_ne (tgt := 72) hx hb d_M_respondTree_50 rfl (fun h50 => absurd (by rw [k0]; rfl) h50) (fun h50 => ?_)
      refine lv_aload_n hx hb d_M_respondTree_53 rfl (lv_at hl 1 rfl) ?_
      refine lv_aload_n hx hb d_M_respondTree_54 rfl (lv_at hl 1 rfl) ?_
      refine mm_get hx hb hts hown hK hP (index := 37) 9 (by decide) mf_M_37 (v := .ref (am 10)) rfl d_M_respondTree_55 ?_
      refine lv_iload_n hx hb d_M_respondTree_58 rfl (lv_at hl 0 rfl) ?_
      refine mm_ald hx hb hK hP 9 (by decide) rfl (k) rfl (show k < 15 from by omega) (lv k) (congrFun h10 k) d_M_respondTree_59 ?_
      refine lv_aload_n hx hb d_M_respondTree_60 rfl (lv_at hl 1 rfl) ?_
      refine mm_get hx hb hts hown hK hP (index := 80) 23 (by decide) mf_M_80 (v := .ref (am 24)) rfl d_M_respondTree_61 ?_
      refine lv_iload_n hx hb d_M_respondTree_64 rfl (lv_at hl 0 rfl) ?_
      refine mm_ald hx hb hK hP 23 (by decide) rfl (k) rfl (show k < 15 from by omega) (c0) (hcc) d_M_respondTree_65 ?_
      refine mm_cv (index := 165) (n := 2) (As := [.int (nI (lv k)), .int (nI c0)]) (rest := []) ⟨hx, hb, hml, hown, hts⟩ (k_respondLeafM l D ca am (zs (mix o sc) 0 6 t) hI (lv k) c0 hlvk hc0 (show o 13 (lv k) < 5003 by rw [h13]; exact hw1) (show o 20 (lv k) < 5003 by rw [h20]; exact hn1)) mk_M_165 mo_M_respondLeaf me_M_M_respondLeaf_M mi_M mc_M_respondLeaf (by decide +kernel) ⟨rfl, rfl⟩ ⟨Nat.le_trans (by decide) hRf, Nat.le_trans (by decide) hRl⟩ hK hP hS hAA rfl hl.1 rfl (Nat.le_of_ble_eq_true rfl) d_M_respondTree_66 ⟨hc, hsl⟩ (fun ar1 H locs hpost hP hS => ?_)
      rw [zs_mixS _ _ _ (by omega), rspL_mix] at hpost
      subst hpost
      refine lv_goto (tgt := 163) hx hb d_M_respondTree_69 rfl ?_
      refine lv_goto (tgt := 17) hx hb d_M_respondTree_163 rfl ?_
      have hl := lv_sub (l' := [(0, .ref (am 0))]) hl [1] rfl
      exact kk (zs sc 0 6 t) H locs ls rfl (fun i hi => rfl) (fun i hi => rfl) (by rw [rq_leaf k0]; exact hP) hS hl
    · skip
      obtain ⟨c1, c2, c3, c4, c5⟩ := hch (by rw [k0]; decide)
      have hlk : lf k < k := by omega
      obtain ⟨gl, gr⟩ := q1 k0
      refine lv_aload_n hx hb d_M_respondTree_17 rfl (lv_at hl 0 rfl) ?_
      refine mm_get hx hb hts hown hK hP (index := 145) 33 (by decide) mf_M_145 (v := .int (nI ((mix o sc) 0 6))) rfl d_M_respondTree_18 ?_
      refine zz_as (y := nI (t + 1)) (congrArg nI hsc) ?_
      refine lv_if_le (tgt := 166) hx hb d_M_respondTree_21 rfl (fun h21 => absurd h21 (nI_nle (by omega) (by omega))) (fun h21 => ?_)
      refine lv_aload_n hx hb d_M_respondTree_24 rfl (lv_at hl 0 rfl) ?_
      refine lv_dup hx hb d_M_respondTree_25 rfl ?_
      refine mm_get hx hb hts hown hK hP (index := 145) 33 (by decide) mf_M_145 (v := .int (nI ((mix o sc) 0 6))) rfl d_M_respondTree_26 ?_
      refine zz_as (y := nI (t + 1)) (congrArg nI hsc) ?_
      refine lv_iconst (v := 1) hx hb d_M_respondTree_29 rfl ?_
      refine lv_isub hx hb d_M_respondTree_30 ?_
      refine zz_as (y := nI ((t + 1) - 1)) (pk_sub (a := t + 1) (b := 1) (by omega)) ?_
      refine zz_as (y := nI t) (rfl) ?_
      refine mm_put hx hb hts hown hK hP hD hS (index := 145) 6 (by decide) mf_M_145 (t) (rfl) rfl rfl d_M_respondTree_31 (fun H locs hP hS => ?_)
      refine lv_aload_n hx hb d_M_respondTree_34 rfl (lv_at hl 0 rfl) ?_
      refine mm_get hx hb hts hown hK hP (index := 77) 22 (by decide) mf_M_77 (v := .ref (am 23)) rfl d_M_respondTree_35 ?_
      refine lv_aload_n hx hb d_M_respondTree_38 rfl (lv_at hl 0 rfl) ?_
      refine mm_get hx hb hts hown hK hP (index := 145) 33 (by decide) mf_M_145 (v := .int (nI t)) rfl d_M_respondTree_39 ?_
      refine mm_ald hx hb hK hP 22 (by decide) rfl (t) rfl (show t < 15 from by omega) (k) (hq) d_M_respondTree_42 ?_
      refine lv_istore_n (lv' := [(2, .int (nI k)), (0, .ref (am 0))]) hx hb d_M_respondTree_43 rfl hl (by decide) rfl (fun ls hl => ?_)
      refine lv_aload_n hx hb d_M_respondTree_44 rfl (lv_at hl 1 rfl) ?_
      refine mm_get hx hb hts hown hK hP (index := 28) 6 (by decide) mf_M_28 (v := .ref (am 7)) rfl d_M_respondTree_45 ?_
      refine lv_iload_n hx hb d_M_respondTree_48 rfl (lv_at hl 0 rfl) ?_
      refine mm_ald hx hb hK hP 6 (by decide) rfl (k) rfl (show k < 15 from by omega) (kd k) (congrFun h7 k) d_M_respondTree_49 ?_
      refine lv_if_ne (tgt := 72) hx hb d_M_respondTree_50 rfl (fun h50 => ?_) (fun h50 => absurd h50 (by rw [k0]; decide))
      refine lv_aload_n hx hb d_M_respondTree_72 rfl (lv_at hl 1 rfl) ?_
      refine mm_get hx hb hts hown hK hP (index := 28) 6 (by decide) mf_M_28 (v := .ref (am 7)) rfl d_M_respondTree_73 ?_
      refine lv_iload_n hx hb d_M_respondTree_76 rfl (lv_at hl 0 rfl) ?_
      refine mm_ald hx hb hK hP 6 (by decide) rfl (k) rfl (show k < 15 from by omega) (kd k) (congrFun h7 k) d_M_respondTree_77 ?_
      refine lv_iconst (v := 1) hx hb d_M_respondTree_78 rfl ?_
      refine lv_icmp_ne (tgt := 119) hx hb d_M_respondTree_79 rfl (fun h79 => absurd (by rw [k0]; rfl) h79) (fun h79 => ?_)
      refine lv_aload_n hx hb d_M_respondTree_82 rfl (lv_at hl 1 rfl) ?_
      refine lv_aload_n hx hb d_M_respondTree_83 rfl (lv_at hl 1 rfl) ?_
      refine mm_get hx hb hts hown hK hP (index := 31) 7 (by decide) mf_M_31 (v := .ref (am 8)) rfl d_M_respondTree_84 ?_
      refine lv_iload_n hx hb d_M_respondTree_87 rfl (lv_at hl 0 rfl) ?_
      refine mm_ald hx hb hK hP 7 (by decide) rfl (k) rfl (show k < 15 from by omega) (lf k) (congrFun h8 k) d_M_respondTree_88 ?_
      refine lv_iconst (v := 1) hx hb d_M_respondTree_89 rfl ?_
      refine lv_aload_n hx hb d_M_respondTree_90 rfl (lv_at hl 1 rfl) ?_
      refine mm_get hx hb hts hown hK hP (index := 80) 23 (by decide) mf_M_80 (v := .ref (am 24)) rfl d_M_respondTree_91 ?_
      refine lv_iload_n hx hb d_M_respondTree_94 rfl (lv_at hl 0 rfl) ?_
      refine mm_ald hx hb hK hP 23 (by decide) rfl (k) rfl (show k < 15 from by omega) (c0) (hcc) d_M_respondTree_95 ?_
      refine mm_cv (index := 155) (n := 3) (As := [.int (nI (lf k)), .int 1, .int (nI c0)]) (rest := []) ⟨hx, hb, hml, hown, hts⟩ (k_laterM l D ca am (zs (mix o sc) 0 6 t) hI (lf k) 1 c0 (by omega) (by decide) (show t < 15 by omega)) mk_M_155 mo_M_later me_M_M_later_M mi_M mc_M_later (by decide +kernel) ⟨rfl, rfl⟩ ⟨Nat.le_trans (by decide) hRf, Nat.le_trans (by decide) hRl⟩ hK hP hS hAA rfl hl.1 rfl (Nat.le_of_ble_eq_true rfl) d_M_respondTree_96 ⟨hc, hsl⟩ (fun ar1 H locs hpost hP hS => ?_)
      rw [zs_mixS _ _ _ (by omega), lat_mix] at hpost
      subst hpost
      refine lv_aload_n hx hb d_M_respondTree_99 rfl (lv_at hl 1 rfl) ?_
      refine lv_aload_n hx hb d_M_respondTree_100 rfl (lv_at hl 1 rfl) ?_
      refine mm_get hx hb hts hown hK hP (index := 34) 8 (by decide) mf_M_34 (v := .ref (am 9)) rfl d_M_respondTree_101 ?_
      refine lv_iload_n hx hb d_M_respondTree_104 rfl (lv_at hl 0 rfl) ?_
      refine mm_ald hx hb hK hP 8 (by decide) rfl (k) rfl (show k < 15 from by omega) (rt k) (congrFun h9 k) d_M_respondTree_105 ?_
      refine lv_iconst (v := 1) hx hb d_M_respondTree_106 rfl ?_
      refine lv_aload_n hx hb d_M_respondTree_107 rfl (lv_at hl 1 rfl) ?_
      refine mm_get hx hb hts hown hK hP (index := 80) 23 (by decide) mf_M_80 (v := .ref (am 24)) rfl d_M_respondTree_108 ?_
      refine lv_iload_n hx hb d_M_respondTree_111 rfl (lv_at hl 0 rfl) ?_
      refine mm_ald hx hb hK hP 23 (by decide) rfl (k) rfl (show k < 15 from by omega) (c0) (by show lat (zs sc 0 6 t) (lf k) 1 c0 24 k = _; rw [lat_24, if_neg (by omega)]; exact hcc) d_M_respondTree_112 ?_
      refine mm_cv (index := 155) (n := 3) (As := [.int (nI (rt k)), .int 1, .int (nI c0)]) (rest := []) ⟨hx, hb, hml, hown, hts⟩ (k_laterM l D ca am (mix o (lat (zs sc 0 6 t) (lf k) 1 c0)) hI (rt k) 1 c0 (by omega) (by decide) (by show lat (zs sc 0 6 t) (lf k) 1 c0 0 6 < 15; rw [lat_06]; show t + 1 < 15; omega)) mk_M_155 mo_M_later me_M_M_later_M mi_M mc_M_later (by decide +kernel) ⟨rfl, rfl⟩ ⟨Nat.le_trans (by decide) hRf, Nat.le_trans (by decide) hRl⟩ hK hP hS hAA rfl hl.1 rfl (Nat.le_of_ble_eq_true rfl) d_M_respondTree_113 ⟨hc, hsl⟩ (fun ar1 H locs hpost hP hS => ?_)
      rw [lat_mix] at hpost
      subst hpost
      refine lv_goto (tgt := 163) hx hb d_M_respondTree_116 rfl ?_
      refine lv_goto (tgt := 17) hx hb d_M_respondTree_163 rfl ?_
      have hl := lv_sub (l' := [(0, .ref (am 0))]) hl [1] rfl
      obtain ⟨g06, g231, g230, g23, g24l, g25l, g24r, g25r, g45⟩ := lat2 sc t (lf k) (rt k) 1 c0 1 c0 (by omega)
      refine ih (rt k) c5 (by omega) gr (t + 1) c0 o _ H locs ls (by omega) hc0 hTb g06 g231 g24l hP hS hl (fun sc1 H locs ls e06 e23 e45 hP hS hl => ?_)
      refine ih (lf k) hlk (by omega) gl t c0 (rq false kd lf rt lv lr dn (rt k) c0 o) sc1 H locs ls (by omega) hc0 (tr_rq hTb _ _ _) e06 ((e23 t (by omega)).trans g230) ((e45 (lf k) (Or.inl (by omega))).trans g24r) hP hS hl (fun sc2 H locs ls f06 f23 f45 hP hS hl => ?_)
      refine kk sc2 H locs ls f06 (fun i hi => ?_) (fun i hi => ?_) (by rw [rq_and k0 hlk c5, if_neg (by decide)]; exact hP) hS hl
      · rw [f23 i hi, e23 i (by omega), g23 i hi]
      · exact (f45 i (by omega)).trans ((e45 i (by omega)).trans (g45 i (by omega) (by omega)).1)
    · skip
      obtain ⟨c1, c2, c3, c4, c5⟩ := hch (by rw [k0]; decide)
      have hlk : lf k < k := by omega
      obtain ⟨hdn, hlr2, gl, gr⟩ := q2 k0
      refine lv_aload_n hx hb d_M_respondTree_17 rfl (lv_at hl 0 rfl) ?_
      refine mm_get hx hb hts hown hK hP (index := 145) 33 (by decide) mf_M_145 (v := .int (nI ((mix o sc) 0 6))) rfl d_M_respondTree_18 ?_
      refine zz_as (y := nI (t + 1)) (congrArg nI hsc) ?_
      refine lv_if_le (tgt := 166) hx hb d_M_respondTree_21 rfl (fun h21 => absurd h21 (nI_nle (by omega) (by omega))) (fun h21 => ?_)
      refine lv_aload_n hx hb d_M_respondTree_24 rfl (lv_at hl 0 rfl) ?_
      refine lv_dup hx hb d_M_respondTree_25 rfl ?_
      refine mm_get hx hb hts hown hK hP (index := 145) 33 (by decide) mf_M_145 (v := .int (nI ((mix o sc) 0 6))) rfl d_M_respondTree_26 ?_
      refine zz_as (y := nI (t + 1)) (congrArg nI hsc) ?_
      refine lv_iconst (v := 1) hx hb d_M_respondTree_29 rfl ?_
      refine lv_isub hx hb d_M_respondTree_30 ?_
      refine zz_as (y := nI ((t + 1) - 1)) (pk_sub (a := t + 1) (b := 1) (by omega)) ?_
      refine zz_as (y := nI t) (rfl) ?_
      refine mm_put hx hb hts hown hK hP hD hS (index := 145) 6 (by decide) mf_M_145 (t) (rfl) rfl rfl d_M_respondTree_31 (fun H locs hP hS => ?_)
      refine lv_aload_n hx hb d_M_respondTree_34 rfl (lv_at hl 0 rfl) ?_
      refine mm_get hx hb hts hown hK hP (index := 77) 22 (by decide) mf_M_77 (v := .ref (am 23)) rfl d_M_respondTree_35 ?_
      refine lv_aload_n hx hb d_M_respondTree_38 rfl (lv_at hl 0 rfl) ?_
      refine mm_get hx hb hts hown hK hP (index := 145) 33 (by decide) mf_M_145 (v := .int (nI t)) rfl d_M_respondTree_39 ?_
      refine mm_ald hx hb hK hP 22 (by decide) rfl (t) rfl (show t < 15 from by omega) (k) (hq) d_M_respondTree_42 ?_
      refine lv_istore_n (lv' := [(2, .int (nI k)), (0, .ref (am 0))]) hx hb d_M_respondTree_43 rfl hl (by decide) rfl (fun ls hl => ?_)
      refine lv_aload_n hx hb d_M_respondTree_44 rfl (lv_at hl 1 rfl) ?_
      refine mm_get hx hb hts hown hK hP (index := 28) 6 (by decide) mf_M_28 (v := .ref (am 7)) rfl d_M_respondTree_45 ?_
      refine lv_iload_n hx hb d_M_respondTree_48 rfl (lv_at hl 0 rfl) ?_
      refine mm_ald hx hb hK hP 6 (by decide) rfl (k) rfl (show k < 15 from by omega) (kd k) (congrFun h7 k) d_M_respondTree_49 ?_
      refine lv_if_ne (tgt := 72) hx hb d_M_respondTree_50 rfl (fun h50 => ?_) (fun h50 => absurd h50 (by rw [k0]; decide))
      refine lv_aload_n hx hb d_M_respondTree_72 rfl (lv_at hl 1 rfl) ?_
      refine mm_get hx hb hts hown hK hP (index := 28) 6 (by decide) mf_M_28 (v := .ref (am 7)) rfl d_M_respondTree_73 ?_
      refine lv_iload_n hx hb d_M_respondTree_76 rfl (lv_at hl 0 rfl) ?_
      refine mm_ald hx hb hK hP 6 (by decide) rfl (k) rfl (show k < 15 from by omega) (kd k) (congrFun h7 k) d_M_respondTree_77 ?_
      refine lv_iconst (v := 1) hx hb d_M_respondTree_78 rfl ?_
      refine lv_icmp_ne (tgt := 119) hx hb d_M_respondTree_79 rfl (fun h79 => ?_) (fun h79 => absurd h79 (by rw [k0]; decide))
      refine lv_aload_n hx hb d_M_respondTree_119 rfl (lv_at hl 1 rfl) ?_
      refine lv_aload_n hx hb d_M_respondTree_120 rfl (lv_at hl 1 rfl) ?_
      refine mm_get hx hb hts hown hK hP (index := 70) 20 (by decide) mf_M_70 (v := .ref (am 21)) rfl d_M_respondTree_121 ?_
      refine lv_iload_n hx hb d_M_respondTree_124 rfl (lv_at hl 0 rfl) ?_
      refine mm_zald hx hb hK hP 20 (by decide) rfl (k) rfl (show k < 15 from by omega) (lr k) (congrFun r21 k) d_M_respondTree_125 ?_
      refine lv_if_eq (tgt := 138) hx hb d_M_respondTree_126 rfl (fun h126 => ?_) (fun h126 => ?_)
      · skip
        have l0 : ¬ lr k = 1 := by have := b_z hlr2 h126; omega
        refine lv_aload_n hx hb d_M_respondTree_138 rfl (lv_at hl 1 rfl) ?_
        refine mm_get hx hb hts hown hK hP (index := 34) 8 (by decide) mf_M_34 (v := .ref (am 9)) rfl d_M_respondTree_139 ?_
        refine lv_iload_n hx hb d_M_respondTree_142 rfl (lv_at hl 0 rfl) ?_
        refine mm_ald hx hb hK hP 8 (by decide) rfl (k) rfl (show k < 15 from by omega) (rt k) (congrFun h9 k) d_M_respondTree_143 ?_
        refine lv_iconst (v := 1) hx hb d_M_respondTree_144 rfl ?_
        refine lv_aload_n hx hb d_M_respondTree_145 rfl (lv_at hl 1 rfl) ?_
        refine mm_get hx hb hts hown hK hP (index := 80) 23 (by decide) mf_M_80 (v := .ref (am 24)) rfl d_M_respondTree_146 ?_
        refine lv_iload_n hx hb d_M_respondTree_149 rfl (lv_at hl 0 rfl) ?_
        refine mm_ald hx hb hK hP 23 (by decide) rfl (k) rfl (show k < 15 from by omega) (c0) (hcc) d_M_respondTree_150 ?_
        refine lv_aload_n hx hb d_M_respondTree_151 rfl (lv_at hl 1 rfl) ?_
        refine mm_get hx hb hts hown hK hP (index := 74) 21 (by decide) mf_M_74 (v := .ref (am 22)) rfl d_M_respondTree_152 ?_
        refine lv_iload_n hx hb d_M_respondTree_155 rfl (lv_at hl 0 rfl) ?_
        refine mm_ald hx hb hK hP 21 (by decide) rfl (k) rfl (show k < 15 from by omega) (dn k) (congrFun r22 k) d_M_respondTree_156 ?_
        refine zz_cS (index := 152) (n := 2) (As := [.int (nI c0), .int (nI (dn k))]) (rest := [.int 1, .int (nI (rt k)), .ref (am 0)]) ⟨hx, hb, hml, hown, hts⟩ (k_less l c0 (dn k) hc0 hdn) mk_M_152 ms_M_less mi_M mc_M_less (by decide +kernel) ⟨rfl, rfl⟩ ⟨Nat.le_trans (by decide) hRf, Nat.le_trans (by decide) hRl⟩ preEq rfl hl.1 rfl (Nat.le_of_ble_eq_true rfl) d_M_respondTree_157 ⟨hc, hsl⟩ ?_
        refine mm_cv (index := 155) (n := 3) (As := [.int (nI (rt k)), .int 1, .int (nI (ls5 c0 (dn k)))]) (rest := []) ⟨hx, hb, hml, hown, hts⟩ (k_laterM l D ca am (zs (mix o sc) 0 6 t) hI (rt k) 1 (ls5 c0 (dn k)) (by omega) (by decide) (show t < 15 by omega)) mk_M_155 mo_M_later me_M_M_later_M mi_M mc_M_later (by decide +kernel) ⟨rfl, rfl⟩ ⟨Nat.le_trans (by decide) hRf, Nat.le_trans (by decide) hRl⟩ hK hP hS hAA rfl hl.1 rfl (Nat.le_of_ble_eq_true rfl) d_M_respondTree_160 ⟨hc, hsl⟩ (fun ar1 H locs hpost hP hS => ?_)
        rw [zs_mixS _ _ _ (by omega), lat_mix] at hpost
        subst hpost
        refine lv_goto (tgt := 17) hx hb d_M_respondTree_163 rfl ?_
        have hl := lv_sub (l' := [(0, .ref (am 0))]) hl [1] rfl
        have z6 : (zs sc 0 6 t) 0 6 = t := zs_eq _ _ _ _
        refine ih (rt k) c5 (by omega) (gr l0) t (ls5 c0 (dn k)) o _ H locs ls (by omega) (ls5_lt _ _) hTb (by rw [lat_06, z6]) (by rw [lat_23, z6, if_pos rfl]) (by rw [lat_24, if_pos rfl]) hP hS hl (fun sc1 H locs ls e06 e23 e45 hP hS hl => ?_)
        refine kk sc1 H locs ls e06 (fun i hi => ?_) (fun i hi => ?_) (by rw [rq_orR k0 hlk c5 l0]; exact hP) hS hl
        · rw [e23 i hi, lat_23, z6, if_neg (by omega)]; rfl
        · rw [e45 i (by omega), lat_24, if_neg (by omega)]; rfl
      · skip
        have l0 : lr k = 1 := b_o hlr2 h126
        refine lv_aload_n hx hb d_M_respondTree_129 rfl (lv_at hl 1 rfl) ?_
        refine mm_get hx hb hts hown hK hP (index := 31) 7 (by decide) mf_M_31 (v := .ref (am 8)) rfl d_M_respondTree_130 ?_
        refine lv_iload_n hx hb d_M_respondTree_133 rfl (lv_at hl 0 rfl) ?_
        refine mm_ald hx hb hK hP 7 (by decide) rfl (k) rfl (show k < 15 from by omega) (lf k) (congrFun h8 k) d_M_respondTree_134 ?_
        refine lv_goto (tgt := 144) hx hb d_M_respondTree_135 rfl ?_
        refine lv_iconst (v := 1) hx hb d_M_respondTree_144 rfl ?_
        refine lv_aload_n hx hb d_M_respondTree_145 rfl (lv_at hl 1 rfl) ?_
        refine mm_get hx hb hts hown hK hP (index := 80) 23 (by decide) mf_M_80 (v := .ref (am 24)) rfl d_M_respondTree_146 ?_
        refine lv_iload_n hx hb d_M_respondTree_149 rfl (lv_at hl 0 rfl) ?_
        refine mm_ald hx hb hK hP 23 (by decide) rfl (k) rfl (show k < 15 from by omega) (c0) (hcc) d_M_respondTree_150 ?_
        refine lv_aload_n hx hb d_M_respondTree_151 rfl (lv_at hl 1 rfl) ?_
        refine mm_get hx hb hts hown hK hP (index := 74) 21 (by decide) mf_M_74 (v := .ref (am 22)) rfl d_M_respondTree_152 ?_
        refine lv_iload_n hx hb d_M_respondTree_155 rfl (lv_at hl 0 rfl) ?_
        refine mm_ald hx hb hK hP 21 (by decide) rfl (k) rfl (show k < 15 from by omega) (dn k) (congrFun r22 k) d_M_respondTree_156 ?_
        refine zz_cS (index := 152) (n := 2) (As := [.int (nI c0), .int (nI (dn k))]) (rest := [.int 1, .int (nI (lf k)), .ref (am 0)]) ⟨hx, hb, hml, hown, hts⟩ (k_less l c0 (dn k) hc0 hdn) mk_M_152 ms_M_less mi_M mc_M_less (by decide +kernel) ⟨rfl, rfl⟩ ⟨Nat.le_trans (by decide) hRf, Nat.le_trans (by decide) hRl⟩ preEq rfl hl.1 rfl (Nat.le_of_ble_eq_true rfl) d_M_respondTree_157 ⟨hc, hsl⟩ ?_
        refine mm_cv (index := 155) (n := 3) (As := [.int (nI (lf k)), .int 1, .int (nI (ls5 c0 (dn k)))]) (rest := []) ⟨hx, hb, hml, hown, hts⟩ (k_laterM l D ca am (zs (mix o sc) 0 6 t) hI (lf k) 1 (ls5 c0 (dn k)) (by omega) (by decide) (show t < 15 by omega)) mk_M_155 mo_M_later me_M_M_later_M mi_M mc_M_later (by decide +kernel) ⟨rfl, rfl⟩ ⟨Nat.le_trans (by decide) hRf, Nat.le_trans (by decide) hRl⟩ hK hP hS hAA rfl hl.1 rfl (Nat.le_of_ble_eq_true rfl) d_M_respondTree_160 ⟨hc, hsl⟩ (fun ar1 H locs hpost hP hS => ?_)
        rw [zs_mixS _ _ _ (by omega), lat_mix] at hpost
        subst hpost
        refine lv_goto (tgt := 17) hx hb d_M_respondTree_163 rfl ?_
        have hl := lv_sub (l' := [(0, .ref (am 0))]) hl [1] rfl
        have z6 : (zs sc 0 6 t) 0 6 = t := zs_eq _ _ _ _
        refine ih (lf k) hlk (by omega) (gl l0) t (ls5 c0 (dn k)) o _ H locs ls (by omega) (ls5_lt _ _) hTb (by rw [lat_06, z6]) (by rw [lat_23, z6, if_pos rfl]) (by rw [lat_24, if_pos rfl]) hP hS hl (fun sc1 H locs ls e06 e23 e45 hP hS hl => ?_)
        refine kk sc1 H locs ls e06 (fun i hi => ?_) (fun i hi => ?_) (by rw [rq_orL k0 hlk c5 l0]; exact hP) hS hl
        · rw [e23 i hi, lat_23, z6, if_neg (by omega)]; rfl
        · rw [e45 i (by omega), lat_24, if_neg (by omega)]; rfl
end MS

set_option maxHeartbeats 4000000 in
set_option maxRecDepth 100000 in
/-- respondTree(c) -/
theorem k_respondTreeM (l : Launch) (D : va_G) (ca : Nat → ClassId) (am : Nat → Nat) (ar : Nat → Nat → Nat) (hI : mI am) (c0 : Nat) (lo : Nat → Nat) (hT : tT ar) (hsz : 0 < ar 0 1) (hI2 : tI (ar 7) (ar 8) (ar 9) lo (ar 0 1)) (hc0 : c0 < 5003) (G : Nat → Prop) (hG : gC (ar 7) (ar 8) (ar 9) (ar 10) (ar 21) (ar 22) (ar 13) (ar 20) (ar 0 1) G) (hGr : G (ar 0 1 - 1)) : Met l y_M_respondTree (Cond.code y_M_respondTree c_M_respondTree 3 none :: zT) ({ frames := 3, cells := 0, slots := 0, locals := 120 }) (va_Pc [.ref (am 0), .int (nI c0)] (mw D ca am ar)) (va_Qv (fun ar1 => ∃ sc : Nat → Nat → Nat, ar1 = mix (rq false (ar 7) (ar 8) (ar 9) (ar 10) (ar 21) (ar 22) (ar 0 1 - 1) c0 ar) sc) (mw D ca am) (mA am)) 0 0 (mA am) := by
  refine Met.ofW (cc := c_M_respondTree) (maxL := 3) (ret := none) (by decide) rfl ?_
  intro p e s m args below meth c s₁ B hml hv
  obtain ⟨rfl, hK, hP⟩ := hv
  have hx := B.exec
  have hb := B.bytes
  have hr := B.returns
  have hts0 := atoms_spec (ws := Cond.code y_M_respondTree c_M_respondTree 3 none :: zT) B.pre
  have hts := fun w h => hts0 w (List.mem_cons_of_mem _ h)
  have hown : s.vm.findClass R_M = some m.cls := findClass_of_methodNamed B.named
  have hlocks := B.notSynchronized
  have hD := mI_D hI
  have hS : va_S (mA am) s.heap s.heap [] := va_S.rf
  have hAA : ∀ q, mA am q → mA am q := fun _ h => h
  have hl := lv_entry ([.ref (am 0), .int (nI c0)]) (n := 3) (Nat.le_of_ble_eq_true rfl)
  rw [lg_entry_eq]
  generalize (lg_sl ([.ref (am 0), .int (nI c0)]) ++ List.replicate (3 - (lg_sl ([.ref (am 0), .int (nI c0)])).length) Slot.unset).toArray = ls at hl ⊢
  have hl : lv_has ls 3 [(0, .ref (am 0)), (1, .int (nI c0))] := hl
  skip
  obtain ⟨hs1, hl2, hT2⟩ := id hT
  refine lv_aload_n hx hb d_M_respondTree_0 rfl (lv_at hl 0 rfl) ?_
  refine lv_iconst (v := 0) hx hb d_M_respondTree_1 rfl ?_
  refine mm_put hx hb hts hown hK hP hD hS (index := 145) 6 (by decide) mf_M_145 (0) (rfl) rfl rfl d_M_respondTree_2 (fun H locs hP hS => ?_)
  refine lv_aload_n hx hb d_M_respondTree_5 rfl (lv_at hl 0 rfl) ?_
  refine lv_aload_n hx hb d_M_respondTree_6 rfl (lv_at hl 0 rfl) ?_
  refine mm_get hx hb hts hown hK hP (index := 122) 28 (by decide) mf_M_122 (v := .int (nI (ar 0 1))) rfl d_M_respondTree_7 ?_
  refine lv_iconst (v := 1) hx hb d_M_respondTree_10 rfl ?_
  refine lv_isub hx hb d_M_respondTree_11 ?_
  refine zz_as (y := nI ((ar 0 1) - 1)) (pk_sub (a := ar 0 1) (b := 1) (by omega)) ?_
  refine lv_iconst (v := 1) hx hb d_M_respondTree_12 rfl ?_
  refine lv_iload_n hx hb d_M_respondTree_13 rfl (lv_at hl 1 rfl) ?_
  refine mm_cv (index := 155) (n := 3) (As := [.int (nI (ar 0 1 - 1)), .int 1, .int (nI c0)]) (rest := []) ⟨hx, hb, hml, hown, hts⟩ (k_laterM l D ca am (zs ar 0 6 0) hI (ar 0 1 - 1) 1 c0 (by omega) (by decide) (show 0 < 15 by decide)) mk_M_155 mo_M_later me_M_M_later_M mi_M mc_M_later (by decide +kernel) ⟨rfl, rfl⟩ ⟨by decide, by decide⟩ hK hP hS hAA rfl hl.1 rfl (Nat.le_of_ble_eq_true rfl) d_M_respondTree_14 ⟨Nat.zero_le _, Nat.zero_le _⟩ (fun ar1 H locs hpost hP hS => ?_)
  rw [show zs ar 0 6 0 = mix ar (zs ar 0 6 0) by rw [← zs_mixS _ _ _ (by omega), mix_self], lat_mix] at hpost
  subst hpost
  have hl : lv_has ls 3 [(0, .ref (am 0))] := lv_sub hl [0] rfl
  refine rt_node (N := ar 0 1) (kd := ar 7) (lf := ar 8) (rt := ar 9) (lv := ar 10) (lr := ar 21) (dn := ar 22) (wi := ar 13) (no := ar 20) (lo := lo) (G := G) hx hb hml hown hts hK hD hI hAA (by decide) (by decide) (Nat.zero_le _) (Nat.zero_le _) hs1 hI2 (fun k q z => Nat.lt_of_lt_of_le ((hT2 k q).2.1 z) hl2) hG (ar 0 1 - 1) (by omega) hGr 0 c0 ar (lat (zs ar 0 6 0) (ar 0 1 - 1) 1 c0) H locs ls (by omega) hc0 ⟨rfl, rfl, rfl, rfl, rfl, rfl, rfl, rfl⟩ (by rw [lat_06]; rfl) (by rw [lat_23, zs_eq, if_pos rfl]) (by rw [lat_24, if_pos rfl]) hP hS hl (fun sc1 H locs ls e06 e23 e45 hP hS hl => ?_)
  refine lv_aload_n hx hb d_M_respondTree_17 rfl (lv_at hl 0 rfl) ?_
  refine mm_get hx hb hts hown hK hP (index := 145) 33 (by decide) mf_M_145 (v := .int (nI ((mix (rq false (ar 7) (ar 8) (ar 9) (ar 10) (ar 21) (ar 22) (ar 0 1 - 1) c0 ar) sc1) 0 6))) rfl d_M_respondTree_18 ?_
  refine zz_as (y := nI 0) (congrArg nI e06) ?_
  refine lv_if_le (tgt := 166) hx hb d_M_respondTree_21 rfl (fun h21 => ?_) (fun h21 => absurd (by decide) h21)
  exact W.vret hx hb hr (fun t ht hW => ⟨⟨mix (rq false (ar 7) (ar 8) (ar 9) (ar 10) (ar 21) (ar 22) (ar 0 1 - 1) c0 ar) sc1, rfl, ⟨sc1, rfl⟩, va_K.moved hW.alike hK, by rw [ht]; exact hP⟩, hS.F ht⟩) hS.2.2 d_M_respondTree_166

theorem d_M_commit_0 : decode c_M_commit 0 = .ok (.aload_n 0, 1) := by decide +kernel
theorem d_M_commit_1 : decode c_M_commit 1 = .ok (.getfield 122, 3) := by decide +kernel
theorem d_M_commit_4 : decode c_M_commit 4 = .ok (.ifCond .ne 6, 3) := by decide +kernel
theorem d_M_commit_7 : decode c_M_commit 7 = .ok (.bipush (-2), 2) := by decide +kernel
theorem d_M_commit_9 : decode c_M_commit 9 = .ok (.ireturn, 1) := by decide +kernel
theorem d_M_commit_10 : decode c_M_commit 10 = .ok (.aload_n 0, 1) := by decide +kernel
theorem d_M_commit_11 : decode c_M_commit 11 = .ok (.invokevirtual 169, 3) := by decide +kernel
theorem d_M_commit_14 : decode c_M_commit 14 = .ok (.ifCond .ne 6, 3) := by decide +kernel
theorem d_M_commit_17 : decode c_M_commit 17 = .ok (.bipush (-3), 2) := by decide +kernel
theorem d_M_commit_19 : decode c_M_commit 19 = .ok (.ireturn, 1) := by decide +kernel
theorem d_M_commit_20 : decode c_M_commit 20 = .ok (.aload_n 0, 1) := by decide +kernel
theorem d_M_commit_21 : decode c_M_commit 21 = .ok (.iconst 1, 1) := by decide +kernel
theorem d_M_commit_22 : decode c_M_commit 22 = .ok (.iconst 0, 1) := by decide +kernel
theorem d_M_commit_23 : decode c_M_commit 23 = .ok (.iload_n 1, 1) := by decide +kernel
theorem d_M_commit_24 : decode c_M_commit 24 = .ok (.invokevirtual 173, 3) := by decide +kernel
theorem d_M_commit_27 : decode c_M_commit 27 = .ok (.aload_n 0, 1) := by decide +kernel
theorem d_M_commit_28 : decode c_M_commit 28 = .ok (.iconst 1, 1) := by decide +kernel
theorem d_M_commit_29 : decode c_M_commit 29 = .ok (.putfield 132, 3) := by decide +kernel
theorem d_M_commit_32 : decode c_M_commit 32 = .ok (.iconst 0, 1) := by decide +kernel
theorem d_M_commit_33 : decode c_M_commit 33 = .ok (.ireturn, 1) := by decide +kernel

set_option maxHeartbeats 4000000 in
set_option maxRecDepth 100000 in
/-- commit(seed) -/
theorem k_commitM (l : Launch) (D : va_G) (ca : Nat → ClassId) (am : Nat → Nat) (ar : Nat → Nat → Nat) (hI : mI am) (sd : Nat) (lo : Nat → Nat) (hT : tT ar) (hw : ∀ i, i < 8 → ar 13 i < 2 ^ 32) (hI2 : tI (ar 7) (ar 8) (ar 9) lo (ar 0 1)) (hbs : ∀ i, i < 16 → ar 11 i < 10007) (his : ∀ i, i < 16 → ar 12 i < 10007) : Met l y_M_commit (Cond.code y_M_commit c_M_commit 2 (some .int) :: zT) ({ frames := 6, cells := 0, slots := 0, locals := 240 }) (va_Pc [.ref (am 0), .int (nI sd)] (mw D ca am ar)) (va_Qi (fun r ar1 => (ar 0 1 = 0 ∧ r = -2 ∧ ar1 = ar) ∨ (0 < ar 0 1 ∧ ∃ h : Nat → Nat, kOK ar h (ar 0 1) ∧ (∀ k, k < ar 0 1 → h k < 2) ∧ ((¬ h (ar 0 1 - 1) = 1 ∧ r = -3 ∧ ar1 = va_up ar 27 h) ∨ (h (ar 0 1 - 1) = 1 ∧ r = 0 ∧ ∃ (h2 : Nat → Nat) (sc : Nat → Nat → Nat), kOK ar h2 (ar 0 1) ∧ (∀ k, k < ar 0 1 → h2 k < 2) ∧ ar1 = zs (mix (cm (ar 7) (ar 8) (ar 9) (ar 10) (ar 0 1 - 1) true 0 (va_up (zs ar 0 5 sd) 27 h2)) sc) 0 4 1)))) (mw D ca am) (mA am)) 0 0 (mA am) := by
  refine Met.ofW (cc := c_M_commit) (maxL := 2) (ret := (some .int)) (by decide) rfl ?_
  intro p e s m args below meth c s₁ B hml hv
  obtain ⟨rfl, hK, hP⟩ := hv
  have hx := B.exec
  have hb := B.bytes
  have hr := B.returns
  have hts0 := atoms_spec (ws := Cond.code y_M_commit c_M_commit 2 (some .int) :: zT) B.pre
  have hts := fun w h => hts0 w (List.mem_cons_of_mem _ h)
  have hown : s.vm.findClass R_M = some m.cls := findClass_of_methodNamed B.named
  have hlocks := B.notSynchronized
  have hD := mI_D hI
  have hS : va_S (mA am) s.heap s.heap [] := va_S.rf
  have hAA : ∀ q, mA am q → mA am q := fun _ h => h
  have hl := lv_entry ([.ref (am 0), .int (nI sd)]) (n := 2) (Nat.le_of_ble_eq_true rfl)
  rw [lg_entry_eq]
  generalize (lg_sl ([.ref (am 0), .int (nI sd)]) ++ List.replicate (2 - (lg_sl ([.ref (am 0), .int (nI sd)])).length) Slot.unset).toArray = ls at hl ⊢
  have hl : lv_has ls 2 [(0, .ref (am 0)), (1, .int (nI sd))] := hl
  skip
  obtain ⟨hs1, hl2, hT2⟩ := id hT
  refine lv_aload_n hx hb d_M_commit_0 rfl (lv_at hl 0 rfl) ?_
  refine mm_get hx hb hts hown hK hP (index := 122) 28 (by decide) mf_M_122 (v := .int (nI (ar 0 1))) rfl d_M_commit_1 ?_
  refine lv_if_ne (tgt := 10) hx hb d_M_commit_4 rfl (fun h4 => ?_) (fun h4 => ?_)
  · skip
    have z : ¬ ar 0 1 = 0 := fun q => h4 (by rw [q]; rfl)
    refine lv_aload_n hx hb d_M_commit_10 rfl (lv_at hl 0 rfl) ?_
    refine mm_ci (index := 169) (n := 0) (As := []) (rest := []) ⟨hx, hb, hml, hown, hts⟩ (k_knownM l D ca am (ar) hI hT hw) mk_M_169 mo_M_known me_M_M_known_M mi_M mc_M_known (by decide +kernel) ⟨rfl, rfl⟩ ⟨by decide, by decide⟩ hK hP hS hAA rfl hl.1 rfl (Nat.le_of_ble_eq_true rfl) d_M_commit_11 ⟨Nat.zero_le _, Nat.zero_le _⟩ (fun r ar1 H locs hpost hP hS => ?_)
    obtain ⟨h, hk, hh, rfl, hr1⟩ := hpost
    subst hr1
    refine lv_if_ne (tgt := 20) hx hb d_M_commit_14 rfl (fun h14 => ?_) (fun h14 => ?_)
    · skip
      have y : h (ar 0 1 - 1) = 1 := by
        have := zb_ne h14
        rw [decide_eq_true (by omega), Bool.true_and] at this
        exact of_decide_eq_true this
      refine lv_aload_n hx hb d_M_commit_20 rfl (lv_at hl 0 rfl) ?_
      refine lv_iconst (v := 1) hx hb d_M_commit_21 rfl ?_
      refine lv_iconst (v := 0) hx hb d_M_commit_22 rfl ?_
      refine lv_iload_n hx hb d_M_commit_23 rfl (lv_at hl 1 rfl) ?_
      refine mm_cv (index := 173) (n := 3) (As := [.int 1, .int 0, .int (nI sd)]) (rest := []) ⟨hx, hb, hml, hown, hts⟩ (k_commitTreeM l D ca am (va_up ar 27 h) hI true 0 sd lo hT (show 0 < ar 0 1 by omega) hw hI2 (by decide) hbs his) mk_M_173 mo_M_commitTree me_M_M_commitTree_M mi_M mc_M_commitTree (by decide +kernel) ⟨rfl, rfl⟩ ⟨by decide, by decide⟩ hK hP hS hAA rfl hl.1 rfl (Nat.le_of_ble_eq_true rfl) d_M_commit_24 ⟨Nat.zero_le _, Nat.zero_le _⟩ (fun ar1 H locs hpost hP hS => ?_)
      obtain ⟨h2, sc, hk2, hh2, hpost⟩ := hpost
      rw [va_up_zs] at hpost
      subst hpost
      refine lv_aload_n hx hb d_M_commit_27 rfl (lv_at hl 0 rfl) ?_
      refine lv_iconst (v := 1) hx hb d_M_commit_28 rfl ?_
      refine mm_put hx hb hts hown hK hP hD hS (index := 132) 4 (by decide) mf_M_132 (1) (rfl) (zn_narb (by decide)) (zn_fitb (by decide)) d_M_commit_29 (fun H locs hP hS => ?_)
      refine lv_iconst (v := 0) hx hb d_M_commit_32 rfl ?_
      exact W.iret hx hb hr (fun t ht hW => ⟨⟨_, zs (mix (cm (ar 7) (ar 8) (ar 9) (ar 10) (ar 0 1 - 1) true 0 (va_up (zs ar 0 5 sd) 27 h2)) sc) 0 4 1, rfl, Or.inr ⟨by omega, h, hk, hh, Or.inr ⟨y, rfl, h2, sc, hk2, hh2, rfl⟩⟩, va_K.moved hW.alike hK, by rw [ht]; exact hP⟩, hS.F ht⟩) hS.2.2 d_M_commit_33
    · skip
      have y : ¬ h (ar 0 1 - 1) = 1 := by
        have := zb_eq h14
        rw [decide_eq_true (by omega), Bool.true_and] at this
        exact of_decide_eq_false this
      refine lv_bipush (v := (-3)) hx hb d_M_commit_17 rfl ?_
      exact W.iret hx hb hr (fun t ht hW => ⟨⟨_, va_up ar 27 h, rfl, Or.inr ⟨by omega, h, hk, hh, Or.inl ⟨y, rfl, rfl⟩⟩, va_K.moved hW.alike hK, by rw [ht]; exact hP⟩, hS.F ht⟩) hS.2.2 d_M_commit_19
  · skip
    have z : ar 0 1 = 0 := (zn_inj (by omega) (by decide)).mp h4
    refine lv_bipush (v := (-2)) hx hb d_M_commit_7 rfl ?_
    exact W.iret hx hb hr (fun t ht hW => ⟨⟨_, ar, rfl, Or.inl ⟨z, rfl, rfl⟩, va_K.moved hW.alike hK, by rw [ht]; exact hP⟩, hS.F ht⟩) hS.2.2 d_M_commit_9

theorem d_M_respond_0 : decode c_M_respond 0 = .ok (.aload_n 0, 1) := by decide +kernel
theorem d_M_respond_1 : decode c_M_respond 1 = .ok (.getfield 122, 3) := by decide +kernel
theorem d_M_respond_4 : decode c_M_respond 4 = .ok (.ifCond .ne 6, 3) := by decide +kernel
theorem d_M_respond_7 : decode c_M_respond 7 = .ok (.bipush (-2), 2) := by decide +kernel
theorem d_M_respond_9 : decode c_M_respond 9 = .ok (.ireturn, 1) := by decide +kernel
theorem d_M_respond_10 : decode c_M_respond 10 = .ok (.iload_n 1, 1) := by decide +kernel
theorem d_M_respond_11 : decode c_M_respond 11 = .ok (.invokestatic 109, 3) := by decide +kernel
theorem d_M_respond_14 : decode c_M_respond 14 = .ok (.ifCond .ne 5, 3) := by decide +kernel
theorem d_M_respond_17 : decode c_M_respond 17 = .ok (.iconst (-1), 1) := by decide +kernel
theorem d_M_respond_18 : decode c_M_respond 18 = .ok (.ireturn, 1) := by decide +kernel
theorem d_M_respond_19 : decode c_M_respond 19 = .ok (.aload_n 0, 1) := by decide +kernel
theorem d_M_respond_20 : decode c_M_respond 20 = .ok (.getfield 132, 3) := by decide +kernel
theorem d_M_respond_23 : decode c_M_respond 23 = .ok (.ifCond .ne 6, 3) := by decide +kernel
theorem d_M_respond_26 : decode c_M_respond 26 = .ok (.bipush (-4), 2) := by decide +kernel
theorem d_M_respond_28 : decode c_M_respond 28 = .ok (.ireturn, 1) := by decide +kernel
theorem d_M_respond_29 : decode c_M_respond 29 = .ok (.aload_n 0, 1) := by decide +kernel
theorem d_M_respond_30 : decode c_M_respond 30 = .ok (.iload_n 1, 1) := by decide +kernel
theorem d_M_respond_31 : decode c_M_respond 31 = .ok (.invokevirtual 177, 3) := by decide +kernel
theorem d_M_respond_34 : decode c_M_respond 34 = .ok (.iconst 0, 1) := by decide +kernel
theorem d_M_respond_35 : decode c_M_respond 35 = .ok (.ireturn, 1) := by decide +kernel

set_option maxHeartbeats 4000000 in
set_option maxRecDepth 100000 in
/-- respond(c) -/
theorem k_respondM (l : Launch) (D : va_G) (ca : Nat → ClassId) (am : Nat → Nat) (ar : Nat → Nat → Nat) (hI : mI am) (c0 : Nat) (hc1 : c0 < 2 ^ 32) (lo : Nat → Nat) (hT : tT ar) (hI2 : tI (ar 7) (ar 8) (ar 9) lo (ar 0 1)) (hcm : ar 0 4 < 2) (hGG : ar 0 4 = 1 → 0 < ar 0 1 → ∃ G : Nat → Prop, gC (ar 7) (ar 8) (ar 9) (ar 10) (ar 21) (ar 22) (ar 13) (ar 20) (ar 0 1) G ∧ G (ar 0 1 - 1)) : Met l y_M_respond (Cond.code y_M_respond c_M_respond 2 (some .int) :: zT) ({ frames := 4, cells := 0, slots := 0, locals := 160 }) (va_Pc [.ref (am 0), .int (nI c0)] (mw D ca am ar)) (va_Qi (fun r ar1 => (ar 0 1 = 0 ∧ r = -2 ∧ ar1 = ar) ∨ (0 < ar 0 1 ∧ ((ex c0 = false ∧ r = -1 ∧ ar1 = ar) ∨ (ex c0 = true ∧ ((ar 0 4 = 0 ∧ r = -4 ∧ ar1 = ar) ∨ (ar 0 4 = 1 ∧ r = 0 ∧ ∃ sc : Nat → Nat → Nat, ar1 = mix (rq false (ar 7) (ar 8) (ar 9) (ar 10) (ar 21) (ar 22) (ar 0 1 - 1) c0 ar) sc)))))) (mw D ca am) (mA am)) 0 0 (mA am) := by
  refine Met.ofW (cc := c_M_respond) (maxL := 2) (ret := (some .int)) (by decide) rfl ?_
  intro p e s m args below meth c s₁ B hml hv
  obtain ⟨rfl, hK, hP⟩ := hv
  have hx := B.exec
  have hb := B.bytes
  have hr := B.returns
  have hts0 := atoms_spec (ws := Cond.code y_M_respond c_M_respond 2 (some .int) :: zT) B.pre
  have hts := fun w h => hts0 w (List.mem_cons_of_mem _ h)
  have hown : s.vm.findClass R_M = some m.cls := findClass_of_methodNamed B.named
  have hlocks := B.notSynchronized
  have hD := mI_D hI
  have hS : va_S (mA am) s.heap s.heap [] := va_S.rf
  have hAA : ∀ q, mA am q → mA am q := fun _ h => h
  have hl := lv_entry ([.ref (am 0), .int (nI c0)]) (n := 2) (Nat.le_of_ble_eq_true rfl)
  rw [lg_entry_eq]
  generalize (lg_sl ([.ref (am 0), .int (nI c0)]) ++ List.replicate (2 - (lg_sl ([.ref (am 0), .int (nI c0)])).length) Slot.unset).toArray = ls at hl ⊢
  have hl : lv_has ls 2 [(0, .ref (am 0)), (1, .int (nI c0))] := hl
  skip
  obtain ⟨hs1, hl2, hT2⟩ := id hT
  refine lv_aload_n hx hb d_M_respond_0 rfl (lv_at hl 0 rfl) ?_
  refine mm_get hx hb hts hown hK hP (index := 122) 28 (by decide) mf_M_122 (v := .int (nI (ar 0 1))) rfl d_M_respond_1 ?_
  refine lv_if_ne (tgt := 10) hx hb d_M_respond_4 rfl (fun h4 => ?_) (fun h4 => ?_)
  · skip
    have z : ¬ ar 0 1 = 0 := fun q => h4 (by rw [q]; rfl)
    refine lv_iload_n hx hb d_M_respond_10 rfl (lv_at hl 1 rfl) ?_
    refine zz_cS (index := 109) (n := 1) (As := [.int (nI c0)]) (rest := []) ⟨hx, hb, hml, hown, hts⟩ (k_isExM l c0 hc1) mk_M_109 ms_M_isExponent mi_M mc_M_isExponent (by decide +kernel) ⟨rfl, rfl⟩ ⟨by decide, by decide⟩ preEq rfl hl.1 rfl (Nat.le_of_ble_eq_true rfl) d_M_respond_11 ⟨Nat.zero_le _, Nat.zero_le _⟩ ?_
    refine lv_if_ne (tgt := 19) hx hb d_M_respond_14 rfl (fun h14 => ?_) (fun h14 => ?_)
    · skip
      have y := zb_ne h14
      have hc0 := ex_is y
      refine lv_aload_n hx hb d_M_respond_19 rfl (lv_at hl 0 rfl) ?_
      refine mm_get hx hb hts hown hK hP (index := 132) 31 (by decide) mf_M_132 (v := .int (nI (ar 0 4))) rfl d_M_respond_20 ?_
      refine lv_if_ne (tgt := 29) hx hb d_M_respond_23 rfl (fun h23 => ?_) (fun h23 => ?_)
      · skip
        have w := b_o hcm h23
        obtain ⟨G, hG, hGr⟩ := hGG w (by omega)
        refine lv_aload_n hx hb d_M_respond_29 rfl (lv_at hl 0 rfl) ?_
        refine lv_iload_n hx hb d_M_respond_30 rfl (lv_at hl 1 rfl) ?_
        refine mm_cv (index := 177) (n := 1) (As := [.int (nI c0)]) (rest := []) ⟨hx, hb, hml, hown, hts⟩ (k_respondTreeM l D ca am (ar) hI c0 lo hT (by omega) hI2 hc0 G hG hGr) mk_M_177 mo_M_respondTree me_M_M_respondTree_M mi_M mc_M_respondTree (by decide +kernel) ⟨rfl, rfl⟩ ⟨by decide, by decide⟩ hK hP hS hAA rfl hl.1 rfl (Nat.le_of_ble_eq_true rfl) d_M_respond_31 ⟨Nat.zero_le _, Nat.zero_le _⟩ (fun ar1 H locs hpost hP hS => ?_)
        obtain ⟨sc, rfl⟩ := hpost
        refine lv_iconst (v := 0) hx hb d_M_respond_34 rfl ?_
        exact W.iret hx hb hr (fun t ht hW => ⟨⟨_, mix (rq false (ar 7) (ar 8) (ar 9) (ar 10) (ar 21) (ar 22) (ar 0 1 - 1) c0 ar) sc, rfl, Or.inr ⟨by omega, Or.inr ⟨y, Or.inr ⟨w, rfl, sc, rfl⟩⟩⟩, va_K.moved hW.alike hK, by rw [ht]; exact hP⟩, hS.F ht⟩) hS.2.2 d_M_respond_35
      · skip
        have w := b_z hcm h23
        refine lv_bipush (v := (-4)) hx hb d_M_respond_26 rfl ?_
        exact W.iret hx hb hr (fun t ht hW => ⟨⟨_, ar, rfl, Or.inr ⟨by omega, Or.inr ⟨y, Or.inl ⟨w, rfl, rfl⟩⟩⟩, va_K.moved hW.alike hK, by rw [ht]; exact hP⟩, hS.F ht⟩) hS.2.2 d_M_respond_28
    · skip
      have y := zb_eq h14
      refine lv_iconst (v := (-1)) hx hb d_M_respond_17 rfl ?_
      exact W.iret hx hb hr (fun t ht hW => ⟨⟨_, ar, rfl, Or.inr ⟨by omega, Or.inl ⟨y, rfl, rfl⟩⟩, va_K.moved hW.alike hK, by rw [ht]; exact hP⟩, hS.F ht⟩) hS.2.2 d_M_respond_18
  · skip
    have z : ar 0 1 = 0 := (zn_inj (by omega) (by decide)).mp h4
    refine lv_bipush (v := (-2)) hx hb d_M_respond_7 rfl ?_
    exact W.iret hx hb hr (fun t ht hW => ⟨⟨_, ar, rfl, Or.inl ⟨z, rfl, rfl⟩, va_K.moved hW.alike hK, by rw [ht]; exact hP⟩, hS.F ht⟩) hS.2.2 d_M_respond_9

theorem d_M_simulate_0 : decode c_M_simulate 0 = .ok (.aload_n 0, 1) := by decide +kernel
theorem d_M_simulate_1 : decode c_M_simulate 1 = .ok (.getfield 122, 3) := by decide +kernel
theorem d_M_simulate_4 : decode c_M_simulate 4 = .ok (.ifCond .ne 6, 3) := by decide +kernel
theorem d_M_simulate_7 : decode c_M_simulate 7 = .ok (.bipush (-2), 2) := by decide +kernel
theorem d_M_simulate_9 : decode c_M_simulate 9 = .ok (.ireturn, 1) := by decide +kernel
theorem d_M_simulate_10 : decode c_M_simulate 10 = .ok (.iload_n 1, 1) := by decide +kernel
theorem d_M_simulate_11 : decode c_M_simulate 11 = .ok (.invokestatic 109, 3) := by decide +kernel
theorem d_M_simulate_14 : decode c_M_simulate 14 = .ok (.ifCond .ne 5, 3) := by decide +kernel
theorem d_M_simulate_17 : decode c_M_simulate 17 = .ok (.iconst (-1), 1) := by decide +kernel
theorem d_M_simulate_18 : decode c_M_simulate 18 = .ok (.ireturn, 1) := by decide +kernel
theorem d_M_simulate_19 : decode c_M_simulate 19 = .ok (.aload_n 0, 1) := by decide +kernel
theorem d_M_simulate_20 : decode c_M_simulate 20 = .ok (.iconst 0, 1) := by decide +kernel
theorem d_M_simulate_21 : decode c_M_simulate 21 = .ok (.iload_n 1, 1) := by decide +kernel
theorem d_M_simulate_22 : decode c_M_simulate 22 = .ok (.iload_n 2, 1) := by decide +kernel
theorem d_M_simulate_23 : decode c_M_simulate 23 = .ok (.invokevirtual 173, 3) := by decide +kernel
theorem d_M_simulate_26 : decode c_M_simulate 26 = .ok (.aload_n 0, 1) := by decide +kernel
theorem d_M_simulate_27 : decode c_M_simulate 27 = .ok (.iconst 0, 1) := by decide +kernel
theorem d_M_simulate_28 : decode c_M_simulate 28 = .ok (.putfield 132, 3) := by decide +kernel
theorem d_M_simulate_31 : decode c_M_simulate 31 = .ok (.iconst 0, 1) := by decide +kernel
theorem d_M_simulate_32 : decode c_M_simulate 32 = .ok (.ireturn, 1) := by decide +kernel

set_option maxHeartbeats 4000000 in
set_option maxRecDepth 100000 in
/-- simulate(c, seed) -/
theorem k_simulateM (l : Launch) (D : va_G) (ca : Nat → ClassId) (am : Nat → Nat) (ar : Nat → Nat → Nat) (hI : mI am) (c0 sd : Nat) (hc1 : c0 < 2 ^ 32) (lo : Nat → Nat) (hT : tT ar) (hw : ∀ i, i < 8 → ar 13 i < 2 ^ 32) (hI2 : tI (ar 7) (ar 8) (ar 9) lo (ar 0 1)) (hbs : ∀ i, i < 16 → ar 11 i < 10007) (his : ∀ i, i < 16 → ar 12 i < 10007) : Met l y_M_simulate (Cond.code y_M_simulate c_M_simulate 3 (some .int) :: zT) ({ frames := 6, cells := 0, slots := 0, locals := 240 }) (va_Pc [.ref (am 0), .int (nI c0), .int (nI sd)] (mw D ca am ar)) (va_Qi (fun r ar1 => (ar 0 1 = 0 ∧ r = -2 ∧ ar1 = ar) ∨ (0 < ar 0 1 ∧ ((ex c0 = false ∧ r = -1 ∧ ar1 = ar) ∨ (ex c0 = true ∧ r = 0 ∧ ∃ (h2 : Nat → Nat) (sc : Nat → Nat → Nat), kOK ar h2 (ar 0 1) ∧ (∀ k, k < ar 0 1 → h2 k < 2) ∧ ar1 = zs (mix (cm (ar 7) (ar 8) (ar 9) (ar 10) (ar 0 1 - 1) false c0 (va_up (zs ar 0 5 sd) 27 h2)) sc) 0 4 0)))) (mw D ca am) (mA am)) 0 0 (mA am) := by
  refine Met.ofW (cc := c_M_simulate) (maxL := 3) (ret := (some .int)) (by decide) rfl ?_
  intro p e s m args below meth c s₁ B hml hv
  obtain ⟨rfl, hK, hP⟩ := hv
  have hx := B.exec
  have hb := B.bytes
  have hr := B.returns
  have hts0 := atoms_spec (ws := Cond.code y_M_simulate c_M_simulate 3 (some .int) :: zT) B.pre
  have hts := fun w h => hts0 w (List.mem_cons_of_mem _ h)
  have hown : s.vm.findClass R_M = some m.cls := findClass_of_methodNamed B.named
  have hlocks := B.notSynchronized
  have hD := mI_D hI
  have hS : va_S (mA am) s.heap s.heap [] := va_S.rf
  have hAA : ∀ q, mA am q → mA am q := fun _ h => h
  have hl := lv_entry ([.ref (am 0), .int (nI c0), .int (nI sd)]) (n := 3) (Nat.le_of_ble_eq_true rfl)
  rw [lg_entry_eq]
  generalize (lg_sl ([.ref (am 0), .int (nI c0), .int (nI sd)]) ++ List.replicate (3 - (lg_sl ([.ref (am 0), .int (nI c0), .int (nI sd)])).length) Slot.unset).toArray = ls at hl ⊢
  have hl : lv_has ls 3 [(0, .ref (am 0)), (1, .int (nI c0)), (2, .int (nI sd))] := hl
  skip
  obtain ⟨hs1, hl2, hT2⟩ := id hT
  refine lv_aload_n hx hb d_M_simulate_0 rfl (lv_at hl 0 rfl) ?_
  refine mm_get hx hb hts hown hK hP (index := 122) 28 (by decide) mf_M_122 (v := .int (nI (ar 0 1))) rfl d_M_simulate_1 ?_
  refine lv_if_ne (tgt := 10) hx hb d_M_simulate_4 rfl (fun h4 => ?_) (fun h4 => ?_)
  · skip
    have z : ¬ ar 0 1 = 0 := fun q => h4 (by rw [q]; rfl)
    refine lv_iload_n hx hb d_M_simulate_10 rfl (lv_at hl 1 rfl) ?_
    refine zz_cS (index := 109) (n := 1) (As := [.int (nI c0)]) (rest := []) ⟨hx, hb, hml, hown, hts⟩ (k_isExM l c0 hc1) mk_M_109 ms_M_isExponent mi_M mc_M_isExponent (by decide +kernel) ⟨rfl, rfl⟩ ⟨by decide, by decide⟩ preEq rfl hl.1 rfl (Nat.le_of_ble_eq_true rfl) d_M_simulate_11 ⟨Nat.zero_le _, Nat.zero_le _⟩ ?_
    refine lv_if_ne (tgt := 19) hx hb d_M_simulate_14 rfl (fun h14 => ?_) (fun h14 => ?_)
    · skip
      have y := zb_ne h14
      have hc0 := ex_is y
      refine lv_aload_n hx hb d_M_simulate_19 rfl (lv_at hl 0 rfl) ?_
      refine lv_iconst (v := 0) hx hb d_M_simulate_20 rfl ?_
      refine lv_iload_n hx hb d_M_simulate_21 rfl (lv_at hl 1 rfl) ?_
      refine lv_iload_n hx hb d_M_simulate_22 rfl (lv_at hl 2 rfl) ?_
      refine mm_cv (index := 173) (n := 3) (As := [.int 0, .int (nI c0), .int (nI sd)]) (rest := []) ⟨hx, hb, hml, hown, hts⟩ (k_commitTreeM l D ca am (ar) hI false c0 sd lo hT (show 0 < ar 0 1 by omega) hw hI2 hc0 hbs his) mk_M_173 mo_M_commitTree me_M_M_commitTree_M mi_M mc_M_commitTree (by decide +kernel) ⟨rfl, rfl⟩ ⟨by decide, by decide⟩ hK hP hS hAA rfl hl.1 rfl (Nat.le_of_ble_eq_true rfl) d_M_simulate_23 ⟨Nat.zero_le _, Nat.zero_le _⟩ (fun ar1 H locs hpost hP hS => ?_)
      obtain ⟨h2, sc, hk2, hh2, hpost⟩ := hpost
      subst hpost
      refine lv_aload_n hx hb d_M_simulate_26 rfl (lv_at hl 0 rfl) ?_
      refine lv_iconst (v := 0) hx hb d_M_simulate_27 rfl ?_
      refine mm_put hx hb hts hown hK hP hD hS (index := 132) 4 (by decide) mf_M_132 (0) (rfl) (zn_narb (by decide)) (zn_fitb (by decide)) d_M_simulate_28 (fun H locs hP hS => ?_)
      refine lv_iconst (v := 0) hx hb d_M_simulate_31 rfl ?_
      exact W.iret hx hb hr (fun t ht hW => ⟨⟨_, zs (mix (cm (ar 7) (ar 8) (ar 9) (ar 10) (ar 0 1 - 1) false c0 (va_up (zs ar 0 5 sd) 27 h2)) sc) 0 4 0, rfl, Or.inr ⟨by omega, Or.inr ⟨y, rfl, h2, sc, hk2, hh2, rfl⟩⟩, va_K.moved hW.alike hK, by rw [ht]; exact hP⟩, hS.F ht⟩) hS.2.2 d_M_simulate_32
    · skip
      have y := zb_eq h14
      refine lv_iconst (v := (-1)) hx hb d_M_simulate_17 rfl ?_
      exact W.iret hx hb hr (fun t ht hW => ⟨⟨_, ar, rfl, Or.inr ⟨by omega, Or.inl ⟨y, rfl, rfl⟩⟩, va_K.moved hW.alike hK, by rw [ht]; exact hP⟩, hS.F ht⟩) hS.2.2 d_M_simulate_18
  · skip
    have z : ar 0 1 = 0 := (zn_inj (by omega) (by decide)).mp h4
    refine lv_bipush (v := (-2)) hx hb d_M_simulate_7 rfl ?_
    exact W.iret hx hb hr (fun t ht hW => ⟨⟨_, ar, rfl, Or.inl ⟨z, rfl, rfl⟩, va_K.moved hW.alike hK, by rw [ht]; exact hP⟩, hS.F ht⟩) hS.2.2 d_M_simulate_9
end
section
/-! the model's hashed, joined, accepts, isAccepted, verify, challenge -/
def hs1 (ar : Nat → Nat → Nat) (n p h : Nat) : Nat := if 0 < ar 11 (2 * n + p) then 31 * (31 * (31 * h + ar 11 (2 * n + p)) + ar 12 (2 * n + p)) + ar 14 (2 * n + p) else h
def hs (ar : Nat → Nat → Nat) : Nat → Nat
  | 0 => 17
  | n + 1 => hs1 ar n 1 (hs1 ar n 0 (hs ar n))
def hsv (ar : Nat → Nat → Nat) : Nat := hs ar (ar 0 2) % 2147483648 % 5003
theorem hs1_t {ar : Nat → Nat → Nat} {n p h : Nat} (q : 0 < ar 11 (2 * n + p)) : hs1 ar n p h = 31 * (31 * (31 * h + ar 11 (2 * n + p)) + ar 12 (2 * n + p)) + ar 14 (2 * n + p) := if_pos q
theorem hs1_f {ar : Nat → Nat → Nat} {n p h : Nat} (q : ¬ 0 < ar 11 (2 * n + p)) : hs1 ar n p h = h := if_neg q
theorem zn_and (h : Nat) : nI h &&& 2147483647 = nI (h % 2147483648) := by
  rw [pk_and (nI h) (m := 2147483647) 31 (by decide), zn_tn]
  exact congrArg nI (Nat.mod_mod_of_dvd h (by decide))
def vv (ar : Nat → Nat → Nat) (cr : Nat) (h : Nat → Nat) (k : Nat) : Nat := if ar 7 k = 0 then ar cr (ar 10 k) else if h (ar 8 k) < 2147483648 ∧ h (ar 9 k) < 2147483648 then (if ar 7 k = 2 then (h (ar 8 k) + h (ar 9 k)) % 5003 else if h (ar 8 k) = h (ar 9 k) then h (ar 8 k) else 4294967295) else 4294967295
def vOK (ar : Nat → Nat → Nat) (cr : Nat) (h : Nat → Nat) (N : Nat) : Prop := ∀ k, k < N → h k = vv ar cr h k
theorem vv_cg {ar : Nat → Nat → Nat} {cr : Nat} {h g : Nat → Nat} {k : Nat} (hc : ar 7 k ≠ 0 → ar 8 k < k ∧ ar 9 k < k) (hg : ∀ i, i < k → g i = h i) : vv ar cr g k = vv ar cr h k := by
  unfold vv
  by_cases h0 : ar 7 k = 0
  · rw [if_pos h0, if_pos h0]
  · rw [hg _ (hc h0).1, hg _ (hc h0).2]
theorem vOK_s {ar : Nat → Nat → Nat} {cr : Nat} {h : Nat → Nat} {k v : Nat} (hk : vOK ar cr h k) (hT : tT ar) (hN : k < ar 0 1) (hv : v = vv ar cr h k) : vOK ar cr (va_up h k v) (k + 1) := by
  intro i hi
  have hcg : vv ar cr (va_up h k v) i = vv ar cr h i := vv_cg (fun z => (hT.2.2 i (by omega)).2.2 z) (fun q hq => va_up_ne _ _ (by omega))
  rw [hcg]
  by_cases e : i = k
  · subst e; rw [va_up_self, hv]
  · rw [va_up_ne _ _ e, hk i (by omega)]
def vB (h : Nat → Nat) (N : Nat) : Prop := ∀ i, i < N → h i < 5003 ∨ h i = 4294967295
theorem vB_s {h : Nat → Nat} {k v : Nat} (hh : vB h k) (hv : v < 5003 ∨ v = 4294967295) : vB (va_up h k v) (k + 1) := by
  intro i hi
  by_cases e : i = k
  · subst e; rw [va_up_self]; exact hv
  · rw [va_up_ne _ _ e]; exact hh i (by omega)
def cR (old : Bool) : Nat := if old then 18 else 15
def rR (old : Bool) : Nat := if old then 19 else 16
def mR (old : Bool) : Nat := if old then 17 else 14
def acP (ar : Nat → Nat → Nat) (old : Bool) (n p : Nat) : Bool := !decide (0 < ar 11 (2 * n + p)) || decide (ar 11 (2 * n + p) ^ ar (rR old) n % 10007 = ar (mR old) (2 * n + p) * (ar 12 (2 * n + p) ^ ar (cR old) n % 10007) % 10007)
def acB (ar : Nat → Nat → Nat) (old : Bool) (n : Nat) : Bool := acP ar old n 0 && acP ar old n 1
def acAll (ar : Nat → Nat → Nat) (old : Bool) : Nat → Bool
  | 0 => true
  | n + 1 => acAll ar old n && acB ar old n
theorem acP_n {ar : Nat → Nat → Nat} {old : Bool} {n p : Nat} (q : ¬ 0 < ar 11 (2 * n + p)) : acP ar old n p = true := by
  unfold acP; rw [decide_eq_false q]; rfl
theorem acP_e {ar : Nat → Nat → Nat} {old : Bool} {n p : Nat} (e : ar 11 (2 * n + p) ^ ar (rR old) n % 10007 = ar (mR old) (2 * n + p) * (ar 12 (2 * n + p) ^ ar (cR old) n % 10007) % 10007) : acP ar old n p = true := by
  unfold acP; rw [decide_eq_true e, Bool.or_true]
theorem acP_f {ar : Nat → Nat → Nat} {old : Bool} {n p : Nat} (q : 0 < ar 11 (2 * n + p)) (e : ¬ ar 11 (2 * n + p) ^ ar (rR old) n % 10007 = ar (mR old) (2 * n + p) * (ar 12 (2 * n + p) ^ ar (cR old) n % 10007) % 10007) : acP ar old n p = false := by
  unfold acP; rw [decide_eq_true q, decide_eq_false e]; rfl
/-- the transcripts' numbers are in range -/
def tN (ar : Nat → Nat → Nat) : Prop := (∀ i, i < 16 → ar 14 i < 10007 ∧ ar 17 i < 10007) ∧ ∀ i, i < 8 → ar 15 i < 5003 ∧ ar 16 i < 5003 ∧ ar 18 i < 5003 ∧ ar 19 i < 5003
theorem zn_eqm {a b : Nat} : nI (a % 10007) = nI (b % 10007) ↔ a % 10007 = b % 10007 := zn_inj (Nat.lt_trans (Nat.mod_lt _ (by decide)) (by decide)) (Nat.lt_trans (Nat.mod_lt _ (by decide)) (by decide))

theorem d_M_hashed_0 : decode c_M_hashed 0 = .ok (.bipush 17, 2) := by decide +kernel
theorem d_M_hashed_2 : decode c_M_hashed 2 = .ok (.istore_n 1, 1) := by decide +kernel
theorem d_M_hashed_3 : decode c_M_hashed 3 = .ok (.iconst 0, 1) := by decide +kernel
theorem d_M_hashed_4 : decode c_M_hashed 4 = .ok (.istore_n 2, 1) := by decide +kernel
theorem d_M_hashed_5 : decode c_M_hashed 5 = .ok (.iload_n 2, 1) := by decide +kernel
theorem d_M_hashed_6 : decode c_M_hashed 6 = .ok (.aload_n 0, 1) := by decide +kernel
theorem d_M_hashed_7 : decode c_M_hashed 7 = .ok (.getfield 125, 3) := by decide +kernel
theorem d_M_hashed_10 : decode c_M_hashed 10 = .ok (.if_icmp .ge 79, 3) := by decide +kernel
theorem d_M_hashed_13 : decode c_M_hashed 13 = .ok (.iconst 0, 1) := by decide +kernel
theorem d_M_hashed_14 : decode c_M_hashed 14 = .ok (.istore_n 3, 1) := by decide +kernel
theorem d_M_hashed_15 : decode c_M_hashed 15 = .ok (.iload_n 3, 1) := by decide +kernel
theorem d_M_hashed_16 : decode c_M_hashed 16 = .ok (.iconst 2, 1) := by decide +kernel
theorem d_M_hashed_17 : decode c_M_hashed 17 = .ok (.if_icmp .ge 66, 3) := by decide +kernel
theorem d_M_hashed_20 : decode c_M_hashed 20 = .ok (.aload_n 0, 1) := by decide +kernel
theorem d_M_hashed_21 : decode c_M_hashed 21 = .ok (.iload_n 2, 1) := by decide +kernel
theorem d_M_hashed_22 : decode c_M_hashed 22 = .ok (.iload_n 3, 1) := by decide +kernel
theorem d_M_hashed_23 : decode c_M_hashed 23 = .ok (.invokevirtual 138, 3) := by decide +kernel
theorem d_M_hashed_26 : decode c_M_hashed 26 = .ok (.ifCond .eq 51, 3) := by decide +kernel
theorem d_M_hashed_29 : decode c_M_hashed 29 = .ok (.bipush 31, 2) := by decide +kernel
theorem d_M_hashed_31 : decode c_M_hashed 31 = .ok (.iload_n 1, 1) := by decide +kernel
theorem d_M_hashed_32 : decode c_M_hashed 32 = .ok (.imul, 1) := by decide +kernel
theorem d_M_hashed_33 : decode c_M_hashed 33 = .ok (.aload_n 0, 1) := by decide +kernel
theorem d_M_hashed_34 : decode c_M_hashed 34 = .ok (.getfield 40, 3) := by decide +kernel
theorem d_M_hashed_37 : decode c_M_hashed 37 = .ok (.iconst 2, 1) := by decide +kernel
theorem d_M_hashed_38 : decode c_M_hashed 38 = .ok (.iload_n 2, 1) := by decide +kernel
theorem d_M_hashed_39 : decode c_M_hashed 39 = .ok (.imul, 1) := by decide +kernel
theorem d_M_hashed_40 : decode c_M_hashed 40 = .ok (.iload_n 3, 1) := by decide +kernel
theorem d_M_hashed_41 : decode c_M_hashed 41 = .ok (.iadd, 1) := by decide +kernel
theorem d_M_hashed_42 : decode c_M_hashed 42 = .ok (.iaload, 1) := by decide +kernel
theorem d_M_hashed_43 : decode c_M_hashed 43 = .ok (.iadd, 1) := by decide +kernel
theorem d_M_hashed_44 : decode c_M_hashed 44 = .ok (.istore_n 1, 1) := by decide +kernel
theorem d_M_hashed_45 : decode c_M_hashed 45 = .ok (.bipush 31, 2) := by decide +kernel
theorem d_M_hashed_47 : decode c_M_hashed 47 = .ok (.iload_n 1, 1) := by decide +kernel
theorem d_M_hashed_48 : decode c_M_hashed 48 = .ok (.imul, 1) := by decide +kernel
theorem d_M_hashed_49 : decode c_M_hashed 49 = .ok (.aload_n 0, 1) := by decide +kernel
theorem d_M_hashed_50 : decode c_M_hashed 50 = .ok (.getfield 43, 3) := by decide +kernel
theorem d_M_hashed_53 : decode c_M_hashed 53 = .ok (.iconst 2, 1) := by decide +kernel
theorem d_M_hashed_54 : decode c_M_hashed 54 = .ok (.iload_n 2, 1) := by decide +kernel
theorem d_M_hashed_55 : decode c_M_hashed 55 = .ok (.imul, 1) := by decide +kernel
theorem d_M_hashed_56 : decode c_M_hashed 56 = .ok (.iload_n 3, 1) := by decide +kernel
theorem d_M_hashed_57 : decode c_M_hashed 57 = .ok (.iadd, 1) := by decide +kernel
theorem d_M_hashed_58 : decode c_M_hashed 58 = .ok (.iaload, 1) := by decide +kernel
theorem d_M_hashed_59 : decode c_M_hashed 59 = .ok (.iadd, 1) := by decide +kernel
theorem d_M_hashed_60 : decode c_M_hashed 60 = .ok (.istore_n 1, 1) := by decide +kernel
theorem d_M_hashed_61 : decode c_M_hashed 61 = .ok (.bipush 31, 2) := by decide +kernel
theorem d_M_hashed_63 : decode c_M_hashed 63 = .ok (.iload_n 1, 1) := by decide +kernel
theorem d_M_hashed_64 : decode c_M_hashed 64 = .ok (.imul, 1) := by decide +kernel
theorem d_M_hashed_65 : decode c_M_hashed 65 = .ok (.aload_n 0, 1) := by decide +kernel
theorem d_M_hashed_66 : decode c_M_hashed 66 = .ok (.getfield 49, 3) := by decide +kernel
theorem d_M_hashed_69 : decode c_M_hashed 69 = .ok (.iconst 2, 1) := by decide +kernel
theorem d_M_hashed_70 : decode c_M_hashed 70 = .ok (.iload_n 2, 1) := by decide +kernel
theorem d_M_hashed_71 : decode c_M_hashed 71 = .ok (.imul, 1) := by decide +kernel
theorem d_M_hashed_72 : decode c_M_hashed 72 = .ok (.iload_n 3, 1) := by decide +kernel
theorem d_M_hashed_73 : decode c_M_hashed 73 = .ok (.iadd, 1) := by decide +kernel
theorem d_M_hashed_74 : decode c_M_hashed 74 = .ok (.iaload, 1) := by decide +kernel
theorem d_M_hashed_75 : decode c_M_hashed 75 = .ok (.iadd, 1) := by decide +kernel
theorem d_M_hashed_76 : decode c_M_hashed 76 = .ok (.istore_n 1, 1) := by decide +kernel
theorem d_M_hashed_77 : decode c_M_hashed 77 = .ok (.iinc 3 1, 3) := by decide +kernel
theorem d_M_hashed_80 : decode c_M_hashed 80 = .ok (.goto (-65), 3) := by decide +kernel
theorem d_M_hashed_83 : decode c_M_hashed 83 = .ok (.iinc 2 1, 3) := by decide +kernel
theorem d_M_hashed_86 : decode c_M_hashed 86 = .ok (.goto (-81), 3) := by decide +kernel
theorem d_M_hashed_89 : decode c_M_hashed 89 = .ok (.iload_n 1, 1) := by decide +kernel
theorem d_M_hashed_90 : decode c_M_hashed 90 = .ok (.ldc 181, 2) := by decide +kernel
theorem d_M_hashed_92 : decode c_M_hashed 92 = .ok (.iand, 1) := by decide +kernel
theorem d_M_hashed_93 : decode c_M_hashed 93 = .ok (.sipush 5003, 3) := by decide +kernel
theorem d_M_hashed_96 : decode c_M_hashed 96 = .ok (.irem, 1) := by decide +kernel
theorem d_M_hashed_97 : decode c_M_hashed 97 = .ok (.ireturn, 1) := by decide +kernel

section MH
variable {p : Program} {l : Launch} {e : Env} {R : Room} {s : State} {m : MethodId} {args : Array Value} {below : List Frame} {meth : Method} {c : Code} {H0 : Heap} {cells slots : Nat} {Q : State → Prop} {A : Nat → Prop} {D : va_G} {ca : Nat → ClassId} {am : Nat → Nat} {ar : Nat → Nat → Nat}
set_option maxHeartbeats 4000000 in
set_option maxRecDepth 100000 in
theorem hashed_loop (hx : p.tables.exec = Jvm.exec) (hb : c.code = c_M_hashed) (hml : c.maxLocals = 4) (hown : s.vm.findClass R_M = some m.cls) (hts : ∀ w ∈ zT, w.before args s = true) (hK : va_K D zC (zty ca) s) (hD : zD A 28 am) (hI : mI am) (hAA : ∀ q, mA am q → A q) (hRf : 3 ≤ R.frames) (hRl : 120 ≤ R.locals) (hc : cells ≤ R.cells) (hsl : slots ≤ R.slots) (hl2 : ar 0 2 ≤ 8) (hbs : ∀ i, i < 16 → ar 11 i < 10007) {H : Heap} {locs : List Loc} (hP : va_P D zC (zl 28 am (mct ca am (ar))) H) (kk : ∀ (ls : Array Slot), lv_has ls 4 [(1, .int (nI (hs ar (ar 0 2)))), (0, .ref (am 0))] → W p l e R s m args below meth c H locs cells slots Q (F0 m 89 ls [])) : ∀ (j k : Nat), k + j = ar 0 2 → ∀ (ls : Array Slot), lv_has ls 4 [(2, .int (nI k)), (1, .int (nI (hs ar k))), (0, .ref (am 0))] → W p l e R s m args below meth c H locs cells slots Q (F0 m 5 ls []) := by
  intro j
  induction j with
  | zero =>
    intro k hk ls hl
    obtain rfl : k = ar 0 2 := by omega
    refine lv_iload_n hx hb d_M_hashed_5 rfl (lv_at hl 0 rfl) ?_
    refine lv_aload_n hx hb d_M_hashed_6 rfl (lv_at hl 2 rfl) ?_
    refine mm_get hx hb hts hown hK hP (index := 125) 29 (by decide) mf_M_125 (v := .int (nI (ar 0 2))) rfl d_M_hashed_7 ?_
    refine lv_icmp_ge (tgt := 89) hx hb d_M_hashed_10 rfl (fun h10 => ?_) (fun h10 => absurd (Int32.le_refl _) h10)
    have hl := lv_sub (l' := [(1, .int (nI (hs ar (ar 0 2)))), (0, .ref (am 0))]) hl [1, 2] rfl
    exact kk ls hl
  | succ j ih =>
    intro k hk ls hl
    have hN : k < ar 0 2 := by omega
    refine lv_iload_n hx hb d_M_hashed_5 rfl (lv_at hl 0 rfl) ?_
    refine lv_aload_n hx hb d_M_hashed_6 rfl (lv_at hl 2 rfl) ?_
    refine mm_get hx hb hts hown hK hP (index := 125) 29 (by decide) mf_M_125 (v := .int (nI (ar 0 2))) rfl d_M_hashed_7 ?_
    refine lv_icmp_ge (tgt := 89) hx hb d_M_hashed_10 rfl (fun h10 => absurd h10 (nI_ge hN (by omega))) (fun h10 => ?_)
    refine lv_iconst (v := 0) hx hb d_M_hashed_13 rfl ?_
    refine lv_istore_n (lv' := [(3, .int 0), (2, .int (nI k)), (1, .int (nI (hs ar k))), (0, .ref (am 0))]) hx hb d_M_hashed_14 rfl hl (by decide) rfl (fun ls hl => ?_)
    have hl : lv_has ls 4 [(3, .int 0), (2, .int (nI k)), (1, .int (nI (hs ar k))), (0, .ref (am 0))] := hl
    refine lv_iload_n hx hb d_M_hashed_15 rfl (lv_at hl 0 rfl) ?_
    refine lv_iconst (v := 2) hx hb d_M_hashed_16 rfl ?_
    refine lv_icmp_ge (tgt := 83) hx hb d_M_hashed_17 rfl (fun h17 => absurd h17 (by decide)) (fun h17 => ?_)
    refine lv_aload_n hx hb d_M_hashed_20 rfl (lv_at hl 3 rfl) ?_
    refine lv_iload_n hx hb d_M_hashed_21 rfl (lv_at hl 1 rfl) ?_
    refine lv_iload_n hx hb d_M_hashed_22 rfl (lv_at hl 0 rfl) ?_
    refine zz_cV (index := 138) (n := 2) (As := [.int (nI k), .int 0]) (rest := []) ⟨hx, hb, hml, hown, hts⟩ (k_isPairM l D ca am (ar) k 0 (by omega) (by decide) hl2 hbs) mk_M_138 mo_M_isPair me_M_M_isPair_M mi_M mc_M_isPair (by decide +kernel) ⟨rfl, rfl⟩ ⟨Nat.le_trans (by decide) hRf, Nat.le_trans (by decide) hRl⟩ (mm_pre hK hP) rfl hl.1 rfl (Nat.le_of_ble_eq_true rfl) d_M_hashed_23 ⟨hc, hsl⟩ ?_
    refine lv_if_eq (tgt := 77) hx hb d_M_hashed_26 rfl (fun h26 => ?_) (fun h26 => ?_)
    · skip
      have hp : ¬ 0 < ar 11 (2 * k + 0) := pairB_f hN (zb_eq (b := pairB ar k 0) h26)
      have hl : lv_has ls 4 [(3, .int 0), (2, .int (nI k)), (1, .int (nI (hs1 ar k 0 (hs ar k)))), (0, .ref (am 0))] := by rw [hs1_f hp]; exact hl
      refine lv_iinc (k := 0) (v := nI (0 + 1)) (lv' := [(3, .int (nI (0 + 1))), (2, .int (nI k)), (1, .int (nI (hs1 ar k 0 (hs ar k)))), (0, .ref (am 0))]) hx hb d_M_hashed_77 hl rfl (nI_1 _) (by decide) rfl (fun ls hl => ?_)
      refine lv_goto (tgt := 15) hx hb d_M_hashed_80 rfl ?_
      have hl : lv_has ls 4 [(3, .int 1), (2, .int (nI k)), (1, .int (nI (hs1 ar k 0 (hs ar k)))), (0, .ref (am 0))] := hl
      refine lv_iload_n hx hb d_M_hashed_15 rfl (lv_at hl 0 rfl) ?_
      refine lv_iconst (v := 2) hx hb d_M_hashed_16 rfl ?_
      refine lv_icmp_ge (tgt := 83) hx hb d_M_hashed_17 rfl (fun h17 => absurd h17 (by decide)) (fun h17 => ?_)
      refine lv_aload_n hx hb d_M_hashed_20 rfl (lv_at hl 3 rfl) ?_
      refine lv_iload_n hx hb d_M_hashed_21 rfl (lv_at hl 1 rfl) ?_
      refine lv_iload_n hx hb d_M_hashed_22 rfl (lv_at hl 0 rfl) ?_
      refine zz_cV (index := 138) (n := 2) (As := [.int (nI k), .int 1]) (rest := []) ⟨hx, hb, hml, hown, hts⟩ (k_isPairM l D ca am (ar) k 1 (by omega) (by decide) hl2 hbs) mk_M_138 mo_M_isPair me_M_M_isPair_M mi_M mc_M_isPair (by decide +kernel) ⟨rfl, rfl⟩ ⟨Nat.le_trans (by decide) hRf, Nat.le_trans (by decide) hRl⟩ (mm_pre hK hP) rfl hl.1 rfl (Nat.le_of_ble_eq_true rfl) d_M_hashed_23 ⟨hc, hsl⟩ ?_
      refine lv_if_eq (tgt := 77) hx hb d_M_hashed_26 rfl (fun h26 => ?_) (fun h26 => ?_)
      · skip
        have hp : ¬ 0 < ar 11 (2 * k + 1) := pairB_f hN (zb_eq (b := pairB ar k 1) h26)
        have hl : lv_has ls 4 [(3, .int 1), (2, .int (nI k)), (1, .int (nI (hs1 ar k 1 (hs1 ar k 0 (hs ar k))))), (0, .ref (am 0))] := by rw [hs1_f hp]; exact hl
        refine lv_iinc (k := 0) (v := nI (1 + 1)) (lv' := [(3, .int (nI (1 + 1))), (2, .int (nI k)), (1, .int (nI (hs1 ar k 1 (hs1 ar k 0 (hs ar k))))), (0, .ref (am 0))]) hx hb d_M_hashed_77 hl rfl (nI_1 _) (by decide) rfl (fun ls hl => ?_)
        refine lv_goto (tgt := 15) hx hb d_M_hashed_80 rfl ?_
        have hl : lv_has ls 4 [(3, .int 2), (2, .int (nI k)), (1, .int (nI (hs1 ar k 1 (hs1 ar k 0 (hs ar k))))), (0, .ref (am 0))] := hl
        refine lv_iload_n hx hb d_M_hashed_15 rfl (lv_at hl 0 rfl) ?_
        refine lv_iconst (v := 2) hx hb d_M_hashed_16 rfl ?_
        refine lv_icmp_ge (tgt := 83) hx hb d_M_hashed_17 rfl (fun h17 => ?_) (fun h17 => absurd (by decide) h17)
        refine lv_iinc (k := 1) (v := nI (k + 1)) (lv' := [(2, .int (nI (k + 1))), (3, .int 2), (1, .int (nI (hs1 ar k 1 (hs1 ar k 0 (hs ar k))))), (0, .ref (am 0))]) hx hb d_M_hashed_83 hl rfl (nI_1 _) (by decide) rfl (fun ls hl => ?_)
        refine lv_goto (tgt := 5) hx hb d_M_hashed_86 rfl ?_
        have hl := lv_sub (l' := [(2, .int (nI (k + 1))), (1, .int (nI (hs1 ar k 1 (hs1 ar k 0 (hs ar k))))), (0, .ref (am 0))]) hl [0, 2, 3] rfl
        exact ih (k + 1) (by omega) ls hl
      · skip
        have hp : 0 < ar 11 (2 * k + 1) := (pairB_t (zb_ne (b := pairB ar k 1) h26)).2
        refine lv_bipush (v := 31) hx hb d_M_hashed_29 rfl ?_
        refine lv_iload_n hx hb d_M_hashed_31 rfl (lv_at hl 2 rfl) ?_
        refine lv_imul hx hb d_M_hashed_32 ?_
        refine zz_as (y := nI (31 * (hs1 ar k 0 (hs ar k)))) (pk_mul 31 (hs1 ar k 0 (hs ar k))) ?_
        refine lv_aload_n hx hb d_M_hashed_33 rfl (lv_at hl 3 rfl) ?_
        refine mm_get hx hb hts hown hK hP (index := 40) 10 (by decide) mf_M_40 (v := .ref (am 11)) rfl d_M_hashed_34 ?_
        refine lv_iconst (v := 2) hx hb d_M_hashed_37 rfl ?_
        refine lv_iload_n hx hb d_M_hashed_38 rfl (lv_at hl 1 rfl) ?_
        refine lv_imul hx hb d_M_hashed_39 ?_
        refine zz_as (y := nI (2 * k)) (pk_mul 2 k) ?_
        refine lv_iload_n hx hb d_M_hashed_40 rfl (lv_at hl 0 rfl) ?_
        refine lv_iadd hx hb d_M_hashed_41 ?_
        refine zz_as (y := nI ((2 * k) + 1)) (nI_add (2 * k) 1) ?_
        refine mm_ald hx hb hK hP 10 (by decide) rfl ((2 * k) + 1) rfl (show (2 * k) + 1 < 16 from by omega) (ar 11 ((2 * k) + 1)) (rfl) d_M_hashed_42 ?_
        refine lv_iadd hx hb d_M_hashed_43 ?_
        refine zz_as (y := nI ((31 * (hs1 ar k 0 (hs ar k))) + (ar 11 ((2 * k) + 1)))) (nI_add (31 * (hs1 ar k 0 (hs ar k))) (ar 11 ((2 * k) + 1))) ?_
        refine lv_istore_n (lv' := [(1, .int (nI ((31 * (hs1 ar k 0 (hs ar k))) + (ar 11 ((2 * k) + 1))))), (3, .int 1), (2, .int (nI k)), (0, .ref (am 0))]) hx hb d_M_hashed_44 rfl hl (by decide) rfl (fun ls hl => ?_)
        refine lv_bipush (v := 31) hx hb d_M_hashed_45 rfl ?_
        refine lv_iload_n hx hb d_M_hashed_47 rfl (lv_at hl 0 rfl) ?_
        refine lv_imul hx hb d_M_hashed_48 ?_
        refine zz_as (y := nI (31 * ((31 * (hs1 ar k 0 (hs ar k))) + (ar 11 ((2 * k) + 1))))) (pk_mul 31 ((31 * (hs1 ar k 0 (hs ar k))) + (ar 11 ((2 * k) + 1)))) ?_
        refine lv_aload_n hx hb d_M_hashed_49 rfl (lv_at hl 3 rfl) ?_
        refine mm_get hx hb hts hown hK hP (index := 43) 11 (by decide) mf_M_43 (v := .ref (am 12)) rfl d_M_hashed_50 ?_
        refine lv_iconst (v := 2) hx hb d_M_hashed_53 rfl ?_
        refine lv_iload_n hx hb d_M_hashed_54 rfl (lv_at hl 2 rfl) ?_
        refine lv_imul hx hb d_M_hashed_55 ?_
        refine zz_as (y := nI (2 * k)) (pk_mul 2 k) ?_
        refine lv_iload_n hx hb d_M_hashed_56 rfl (lv_at hl 1 rfl) ?_
        refine lv_iadd hx hb d_M_hashed_57 ?_
        refine zz_as (y := nI ((2 * k) + 1)) (nI_add (2 * k) 1) ?_
        refine mm_ald hx hb hK hP 11 (by decide) rfl ((2 * k) + 1) rfl (show (2 * k) + 1 < 16 from by omega) (ar 12 ((2 * k) + 1)) (rfl) d_M_hashed_58 ?_
        refine lv_iadd hx hb d_M_hashed_59 ?_
        refine zz_as (y := nI ((31 * ((31 * (hs1 ar k 0 (hs ar k))) + (ar 11 ((2 * k) + 1)))) + (ar 12 ((2 * k) + 1)))) (nI_add (31 * ((31 * (hs1 ar k 0 (hs ar k))) + (ar 11 ((2 * k) + 1)))) (ar 12 ((2 * k) + 1))) ?_
        refine lv_istore_n (lv' := [(1, .int (nI ((31 * ((31 * (hs1 ar k 0 (hs ar k))) + (ar 11 ((2 * k) + 1)))) + (ar 12 ((2 * k) + 1))))), (3, .int 1), (2, .int (nI k)), (0, .ref (am 0))]) hx hb d_M_hashed_60 rfl hl (by decide) rfl (fun ls hl => ?_)
        refine lv_bipush (v := 31) hx hb d_M_hashed_61 rfl ?_
        refine lv_iload_n hx hb d_M_hashed_63 rfl (lv_at hl 0 rfl) ?_
        refine lv_imul hx hb d_M_hashed_64 ?_
        refine zz_as (y := nI (31 * ((31 * ((31 * (hs1 ar k 0 (hs ar k))) + (ar 11 ((2 * k) + 1)))) + (ar 12 ((2 * k) + 1))))) (pk_mul 31 ((31 * ((31 * (hs1 ar k 0 (hs ar k))) + (ar 11 ((2 * k) + 1)))) + (ar 12 ((2 * k) + 1)))) ?_
        refine lv_aload_n hx hb d_M_hashed_65 rfl (lv_at hl 3 rfl) ?_
        refine mm_get hx hb hts hown hK hP (index := 49) 13 (by decide) mf_M_49 (v := .ref (am 14)) rfl d_M_hashed_66 ?_
        refine lv_iconst (v := 2) hx hb d_M_hashed_69 rfl ?_
        refine lv_iload_n hx hb d_M_hashed_70 rfl (lv_at hl 2 rfl) ?_
        refine lv_imul hx hb d_M_hashed_71 ?_
        refine zz_as (y := nI (2 * k)) (pk_mul 2 k) ?_
        refine lv_iload_n hx hb d_M_hashed_72 rfl (lv_at hl 1 rfl) ?_
        refine lv_iadd hx hb d_M_hashed_73 ?_
        refine zz_as (y := nI ((2 * k) + 1)) (nI_add (2 * k) 1) ?_
        refine mm_ald hx hb hK hP 13 (by decide) rfl ((2 * k) + 1) rfl (show (2 * k) + 1 < 16 from by omega) (ar 14 ((2 * k) + 1)) (rfl) d_M_hashed_74 ?_
        refine lv_iadd hx hb d_M_hashed_75 ?_
        refine zz_as (y := nI ((31 * ((31 * ((31 * (hs1 ar k 0 (hs ar k))) + (ar 11 ((2 * k) + 1)))) + (ar 12 ((2 * k) + 1)))) + (ar 14 ((2 * k) + 1)))) (nI_add (31 * ((31 * ((31 * (hs1 ar k 0 (hs ar k))) + (ar 11 ((2 * k) + 1)))) + (ar 12 ((2 * k) + 1)))) (ar 14 ((2 * k) + 1))) ?_
        refine lv_istore_n (lv' := [(1, .int (nI ((31 * ((31 * ((31 * (hs1 ar k 0 (hs ar k))) + (ar 11 ((2 * k) + 1)))) + (ar 12 ((2 * k) + 1)))) + (ar 14 ((2 * k) + 1))))), (3, .int 1), (2, .int (nI k)), (0, .ref (am 0))]) hx hb d_M_hashed_76 rfl hl (by decide) rfl (fun ls hl => ?_)
        have hl : lv_has ls 4 [(1, .int (nI (hs1 ar k 1 (hs1 ar k 0 (hs ar k))))), (3, .int 1), (2, .int (nI k)), (0, .ref (am 0))] := by rw [hs1_t hp]; exact hl
        refine lv_iinc (k := 1) (v := nI (1 + 1)) (lv' := [(3, .int (nI (1 + 1))), (1, .int (nI (hs1 ar k 1 (hs1 ar k 0 (hs ar k))))), (2, .int (nI k)), (0, .ref (am 0))]) hx hb d_M_hashed_77 hl rfl (nI_1 _) (by decide) rfl (fun ls hl => ?_)
        refine lv_goto (tgt := 15) hx hb d_M_hashed_80 rfl ?_
        have hl : lv_has ls 4 [(3, .int 2), (1, .int (nI (hs1 ar k 1 (hs1 ar k 0 (hs ar k))))), (2, .int (nI k)), (0, .ref (am 0))] := hl
        refine lv_iload_n hx hb d_M_hashed_15 rfl (lv_at hl 0 rfl) ?_
        refine lv_iconst (v := 2) hx hb d_M_hashed_16 rfl ?_
        refine lv_icmp_ge (tgt := 83) hx hb d_M_hashed_17 rfl (fun h17 => ?_) (fun h17 => absurd (by decide) h17)
        refine lv_iinc (k := 2) (v := nI (k + 1)) (lv' := [(2, .int (nI (k + 1))), (3, .int 2), (1, .int (nI (hs1 ar k 1 (hs1 ar k 0 (hs ar k))))), (0, .ref (am 0))]) hx hb d_M_hashed_83 hl rfl (nI_1 _) (by decide) rfl (fun ls hl => ?_)
        refine lv_goto (tgt := 5) hx hb d_M_hashed_86 rfl ?_
        have hl := lv_sub (l' := [(2, .int (nI (k + 1))), (1, .int (nI (hs1 ar k 1 (hs1 ar k 0 (hs ar k))))), (0, .ref (am 0))]) hl [0, 2, 3] rfl
        exact ih (k + 1) (by omega) ls hl
    · skip
      have hp : 0 < ar 11 (2 * k + 0) := (pairB_t (zb_ne (b := pairB ar k 0) h26)).2
      refine lv_bipush (v := 31) hx hb d_M_hashed_29 rfl ?_
      refine lv_iload_n hx hb d_M_hashed_31 rfl (lv_at hl 2 rfl) ?_
      refine lv_imul hx hb d_M_hashed_32 ?_
      refine zz_as (y := nI (31 * (hs ar k))) (pk_mul 31 (hs ar k)) ?_
      refine lv_aload_n hx hb d_M_hashed_33 rfl (lv_at hl 3 rfl) ?_
      refine mm_get hx hb hts hown hK hP (index := 40) 10 (by decide) mf_M_40 (v := .ref (am 11)) rfl d_M_hashed_34 ?_
      refine lv_iconst (v := 2) hx hb d_M_hashed_37 rfl ?_
      refine lv_iload_n hx hb d_M_hashed_38 rfl (lv_at hl 1 rfl) ?_
      refine lv_imul hx hb d_M_hashed_39 ?_
      refine zz_as (y := nI (2 * k)) (pk_mul 2 k) ?_
      refine lv_iload_n hx hb d_M_hashed_40 rfl (lv_at hl 0 rfl) ?_
      refine lv_iadd hx hb d_M_hashed_41 ?_
      refine zz_as (y := nI ((2 * k) + 0)) (nI_add (2 * k) 0) ?_
      refine mm_ald hx hb hK hP 10 (by decide) rfl ((2 * k) + 0) rfl (show (2 * k) + 0 < 16 from by omega) (ar 11 ((2 * k) + 0)) (rfl) d_M_hashed_42 ?_
      refine lv_iadd hx hb d_M_hashed_43 ?_
      refine zz_as (y := nI ((31 * (hs ar k)) + (ar 11 ((2 * k) + 0)))) (nI_add (31 * (hs ar k)) (ar 11 ((2 * k) + 0))) ?_
      refine lv_istore_n (lv' := [(1, .int (nI ((31 * (hs ar k)) + (ar 11 ((2 * k) + 0))))), (3, .int 0), (2, .int (nI k)), (0, .ref (am 0))]) hx hb d_M_hashed_44 rfl hl (by decide) rfl (fun ls hl => ?_)
      refine lv_bipush (v := 31) hx hb d_M_hashed_45 rfl ?_
      refine lv_iload_n hx hb d_M_hashed_47 rfl (lv_at hl 0 rfl) ?_
      refine lv_imul hx hb d_M_hashed_48 ?_
      refine zz_as (y := nI (31 * ((31 * (hs ar k)) + (ar 11 ((2 * k) + 0))))) (pk_mul 31 ((31 * (hs ar k)) + (ar 11 ((2 * k) + 0)))) ?_
      refine lv_aload_n hx hb d_M_hashed_49 rfl (lv_at hl 3 rfl) ?_
      refine mm_get hx hb hts hown hK hP (index := 43) 11 (by decide) mf_M_43 (v := .ref (am 12)) rfl d_M_hashed_50 ?_
      refine lv_iconst (v := 2) hx hb d_M_hashed_53 rfl ?_
      refine lv_iload_n hx hb d_M_hashed_54 rfl (lv_at hl 2 rfl) ?_
      refine lv_imul hx hb d_M_hashed_55 ?_
      refine zz_as (y := nI (2 * k)) (pk_mul 2 k) ?_
      refine lv_iload_n hx hb d_M_hashed_56 rfl (lv_at hl 1 rfl) ?_
      refine lv_iadd hx hb d_M_hashed_57 ?_
      refine zz_as (y := nI ((2 * k) + 0)) (nI_add (2 * k) 0) ?_
      refine mm_ald hx hb hK hP 11 (by decide) rfl ((2 * k) + 0) rfl (show (2 * k) + 0 < 16 from by omega) (ar 12 ((2 * k) + 0)) (rfl) d_M_hashed_58 ?_
      refine lv_iadd hx hb d_M_hashed_59 ?_
      refine zz_as (y := nI ((31 * ((31 * (hs ar k)) + (ar 11 ((2 * k) + 0)))) + (ar 12 ((2 * k) + 0)))) (nI_add (31 * ((31 * (hs ar k)) + (ar 11 ((2 * k) + 0)))) (ar 12 ((2 * k) + 0))) ?_
      refine lv_istore_n (lv' := [(1, .int (nI ((31 * ((31 * (hs ar k)) + (ar 11 ((2 * k) + 0)))) + (ar 12 ((2 * k) + 0))))), (3, .int 0), (2, .int (nI k)), (0, .ref (am 0))]) hx hb d_M_hashed_60 rfl hl (by decide) rfl (fun ls hl => ?_)
      refine lv_bipush (v := 31) hx hb d_M_hashed_61 rfl ?_
      refine lv_iload_n hx hb d_M_hashed_63 rfl (lv_at hl 0 rfl) ?_
      refine lv_imul hx hb d_M_hashed_64 ?_
      refine zz_as (y := nI (31 * ((31 * ((31 * (hs ar k)) + (ar 11 ((2 * k) + 0)))) + (ar 12 ((2 * k) + 0))))) (pk_mul 31 ((31 * ((31 * (hs ar k)) + (ar 11 ((2 * k) + 0)))) + (ar 12 ((2 * k) + 0)))) ?_
      refine lv_aload_n hx hb d_M_hashed_65 rfl (lv_at hl 3 rfl) ?_
      refine mm_get hx hb hts hown hK hP (index := 49) 13 (by decide) mf_M_49 (v := .ref (am 14)) rfl d_M_hashed_66 ?_
      refine lv_iconst (v := 2) hx hb d_M_hashed_69 rfl ?_
      refine lv_iload_n hx hb d_M_hashed_70 rfl (lv_at hl 2 rfl) ?_
      refine lv_imul hx hb d_M_hashed_71 ?_
      refine zz_as (y := nI (2 * k)) (pk_mul 2 k) ?_
      refine lv_iload_n hx hb d_M_hashed_72 rfl (lv_at hl 1 rfl) ?_
      refine lv_iadd hx hb d_M_hashed_73 ?_
      refine zz_as (y := nI ((2 * k) + 0)) (nI_add (2 * k) 0) ?_
      refine mm_ald hx hb hK hP 13 (by decide) rfl ((2 * k) + 0) rfl (show (2 * k) + 0 < 16 from by omega) (ar 14 ((2 * k) + 0)) (rfl) d_M_hashed_74 ?_
      refine lv_iadd hx hb d_M_hashed_75 ?_
      refine zz_as (y := nI ((31 * ((31 * ((31 * (hs ar k)) + (ar 11 ((2 * k) + 0)))) + (ar 12 ((2 * k) + 0)))) + (ar 14 ((2 * k) + 0)))) (nI_add (31 * ((31 * ((31 * (hs ar k)) + (ar 11 ((2 * k) + 0)))) + (ar 12 ((2 * k) + 0)))) (ar 14 ((2 * k) + 0))) ?_
      refine lv_istore_n (lv' := [(1, .int (nI ((31 * ((31 * ((31 * (hs ar k)) + (ar 11 ((2 * k) + 0)))) + (ar 12 ((2 * k) + 0)))) + (ar 14 ((2 * k) + 0))))), (3, .int 0), (2, .int (nI k)), (0, .ref (am 0))]) hx hb d_M_hashed_76 rfl hl (by decide) rfl (fun ls hl => ?_)
      have hl : lv_has ls 4 [(1, .int (nI (hs1 ar k 0 (hs ar k)))), (3, .int 0), (2, .int (nI k)), (0, .ref (am 0))] := by rw [hs1_t hp]; exact hl
      refine lv_iinc (k := 1) (v := nI (0 + 1)) (lv' := [(3, .int (nI (0 + 1))), (1, .int (nI (hs1 ar k 0 (hs ar k)))), (2, .int (nI k)), (0, .ref (am 0))]) hx hb d_M_hashed_77 hl rfl (nI_1 _) (by decide) rfl (fun ls hl => ?_)
      refine lv_goto (tgt := 15) hx hb d_M_hashed_80 rfl ?_
      have hl : lv_has ls 4 [(3, .int 1), (1, .int (nI (hs1 ar k 0 (hs ar k)))), (2, .int (nI k)), (0, .ref (am 0))] := hl
      refine lv_iload_n hx hb d_M_hashed_15 rfl (lv_at hl 0 rfl) ?_
      refine lv_iconst (v := 2) hx hb d_M_hashed_16 rfl ?_
      refine lv_icmp_ge (tgt := 83) hx hb d_M_hashed_17 rfl (fun h17 => absurd h17 (by decide)) (fun h17 => ?_)
      refine lv_aload_n hx hb d_M_hashed_20 rfl (lv_at hl 3 rfl) ?_
      refine lv_iload_n hx hb d_M_hashed_21 rfl (lv_at hl 2 rfl) ?_
      refine lv_iload_n hx hb d_M_hashed_22 rfl (lv_at hl 0 rfl) ?_
      refine zz_cV (index := 138) (n := 2) (As := [.int (nI k), .int 1]) (rest := []) ⟨hx, hb, hml, hown, hts⟩ (k_isPairM l D ca am (ar) k 1 (by omega) (by decide) hl2 hbs) mk_M_138 mo_M_isPair me_M_M_isPair_M mi_M mc_M_isPair (by decide +kernel) ⟨rfl, rfl⟩ ⟨Nat.le_trans (by decide) hRf, Nat.le_trans (by decide) hRl⟩ (mm_pre hK hP) rfl hl.1 rfl (Nat.le_of_ble_eq_true rfl) d_M_hashed_23 ⟨hc, hsl⟩ ?_
      refine lv_if_eq (tgt := 77) hx hb d_M_hashed_26 rfl (fun h26 => ?_) (fun h26 => ?_)
      · skip
        have hp : ¬ 0 < ar 11 (2 * k + 1) := pairB_f hN (zb_eq (b := pairB ar k 1) h26)
        have hl : lv_has ls 4 [(3, .int 1), (1, .int (nI (hs1 ar k 1 (hs1 ar k 0 (hs ar k))))), (2, .int (nI k)), (0, .ref (am 0))] := by rw [hs1_f hp]; exact hl
        refine lv_iinc (k := 0) (v := nI (1 + 1)) (lv' := [(3, .int (nI (1 + 1))), (1, .int (nI (hs1 ar k 1 (hs1 ar k 0 (hs ar k))))), (2, .int (nI k)), (0, .ref (am 0))]) hx hb d_M_hashed_77 hl rfl (nI_1 _) (by decide) rfl (fun ls hl => ?_)
        refine lv_goto (tgt := 15) hx hb d_M_hashed_80 rfl ?_
        have hl : lv_has ls 4 [(3, .int 2), (1, .int (nI (hs1 ar k 1 (hs1 ar k 0 (hs ar k))))), (2, .int (nI k)), (0, .ref (am 0))] := hl
        refine lv_iload_n hx hb d_M_hashed_15 rfl (lv_at hl 0 rfl) ?_
        refine lv_iconst (v := 2) hx hb d_M_hashed_16 rfl ?_
        refine lv_icmp_ge (tgt := 83) hx hb d_M_hashed_17 rfl (fun h17 => ?_) (fun h17 => absurd (by decide) h17)
        refine lv_iinc (k := 2) (v := nI (k + 1)) (lv' := [(2, .int (nI (k + 1))), (3, .int 2), (1, .int (nI (hs1 ar k 1 (hs1 ar k 0 (hs ar k))))), (0, .ref (am 0))]) hx hb d_M_hashed_83 hl rfl (nI_1 _) (by decide) rfl (fun ls hl => ?_)
        refine lv_goto (tgt := 5) hx hb d_M_hashed_86 rfl ?_
        have hl := lv_sub (l' := [(2, .int (nI (k + 1))), (1, .int (nI (hs1 ar k 1 (hs1 ar k 0 (hs ar k))))), (0, .ref (am 0))]) hl [0, 2, 3] rfl
        exact ih (k + 1) (by omega) ls hl
      · skip
        have hp : 0 < ar 11 (2 * k + 1) := (pairB_t (zb_ne (b := pairB ar k 1) h26)).2
        refine lv_bipush (v := 31) hx hb d_M_hashed_29 rfl ?_
        refine lv_iload_n hx hb d_M_hashed_31 rfl (lv_at hl 1 rfl) ?_
        refine lv_imul hx hb d_M_hashed_32 ?_
        refine zz_as (y := nI (31 * (hs1 ar k 0 (hs ar k)))) (pk_mul 31 (hs1 ar k 0 (hs ar k))) ?_
        refine lv_aload_n hx hb d_M_hashed_33 rfl (lv_at hl 3 rfl) ?_
        refine mm_get hx hb hts hown hK hP (index := 40) 10 (by decide) mf_M_40 (v := .ref (am 11)) rfl d_M_hashed_34 ?_
        refine lv_iconst (v := 2) hx hb d_M_hashed_37 rfl ?_
        refine lv_iload_n hx hb d_M_hashed_38 rfl (lv_at hl 2 rfl) ?_
        refine lv_imul hx hb d_M_hashed_39 ?_
        refine zz_as (y := nI (2 * k)) (pk_mul 2 k) ?_
        refine lv_iload_n hx hb d_M_hashed_40 rfl (lv_at hl 0 rfl) ?_
        refine lv_iadd hx hb d_M_hashed_41 ?_
        refine zz_as (y := nI ((2 * k) + 1)) (nI_add (2 * k) 1) ?_
        refine mm_ald hx hb hK hP 10 (by decide) rfl ((2 * k) + 1) rfl (show (2 * k) + 1 < 16 from by omega) (ar 11 ((2 * k) + 1)) (rfl) d_M_hashed_42 ?_
        refine lv_iadd hx hb d_M_hashed_43 ?_
        refine zz_as (y := nI ((31 * (hs1 ar k 0 (hs ar k))) + (ar 11 ((2 * k) + 1)))) (nI_add (31 * (hs1 ar k 0 (hs ar k))) (ar 11 ((2 * k) + 1))) ?_
        refine lv_istore_n (lv' := [(1, .int (nI ((31 * (hs1 ar k 0 (hs ar k))) + (ar 11 ((2 * k) + 1))))), (3, .int 1), (2, .int (nI k)), (0, .ref (am 0))]) hx hb d_M_hashed_44 rfl hl (by decide) rfl (fun ls hl => ?_)
        refine lv_bipush (v := 31) hx hb d_M_hashed_45 rfl ?_
        refine lv_iload_n hx hb d_M_hashed_47 rfl (lv_at hl 0 rfl) ?_
        refine lv_imul hx hb d_M_hashed_48 ?_
        refine zz_as (y := nI (31 * ((31 * (hs1 ar k 0 (hs ar k))) + (ar 11 ((2 * k) + 1))))) (pk_mul 31 ((31 * (hs1 ar k 0 (hs ar k))) + (ar 11 ((2 * k) + 1)))) ?_
        refine lv_aload_n hx hb d_M_hashed_49 rfl (lv_at hl 3 rfl) ?_
        refine mm_get hx hb hts hown hK hP (index := 43) 11 (by decide) mf_M_43 (v := .ref (am 12)) rfl d_M_hashed_50 ?_
        refine lv_iconst (v := 2) hx hb d_M_hashed_53 rfl ?_
        refine lv_iload_n hx hb d_M_hashed_54 rfl (lv_at hl 2 rfl) ?_
        refine lv_imul hx hb d_M_hashed_55 ?_
        refine zz_as (y := nI (2 * k)) (pk_mul 2 k) ?_
        refine lv_iload_n hx hb d_M_hashed_56 rfl (lv_at hl 1 rfl) ?_
        refine lv_iadd hx hb d_M_hashed_57 ?_
        refine zz_as (y := nI ((2 * k) + 1)) (nI_add (2 * k) 1) ?_
        refine mm_ald hx hb hK hP 11 (by decide) rfl ((2 * k) + 1) rfl (show (2 * k) + 1 < 16 from by omega) (ar 12 ((2 * k) + 1)) (rfl) d_M_hashed_58 ?_
        refine lv_iadd hx hb d_M_hashed_59 ?_
        refine zz_as (y := nI ((31 * ((31 * (hs1 ar k 0 (hs ar k))) + (ar 11 ((2 * k) + 1)))) + (ar 12 ((2 * k) + 1)))) (nI_add (31 * ((31 * (hs1 ar k 0 (hs ar k))) + (ar 11 ((2 * k) + 1)))) (ar 12 ((2 * k) + 1))) ?_
        refine lv_istore_n (lv' := [(1, .int (nI ((31 * ((31 * (hs1 ar k 0 (hs ar k))) + (ar 11 ((2 * k) + 1)))) + (ar 12 ((2 * k) + 1))))), (3, .int 1), (2, .int (nI k)), (0, .ref (am 0))]) hx hb d_M_hashed_60 rfl hl (by decide) rfl (fun ls hl => ?_)
        refine lv_bipush (v := 31) hx hb d_M_hashed_61 rfl ?_
        refine lv_iload_n hx hb d_M_hashed_63 rfl (lv_at hl 0 rfl) ?_
        refine lv_imul hx hb d_M_hashed_64 ?_
        refine zz_as (y := nI (31 * ((31 * ((31 * (hs1 ar k 0 (hs ar k))) + (ar 11 ((2 * k) + 1)))) + (ar 12 ((2 * k) + 1))))) (pk_mul 31 ((31 * ((31 * (hs1 ar k 0 (hs ar k))) + (ar 11 ((2 * k) + 1)))) + (ar 12 ((2 * k) + 1)))) ?_
        refine lv_aload_n hx hb d_M_hashed_65 rfl (lv_at hl 3 rfl) ?_
        refine mm_get hx hb hts hown hK hP (index := 49) 13 (by decide) mf_M_49 (v := .ref (am 14)) rfl d_M_hashed_66 ?_
        refine lv_iconst (v := 2) hx hb d_M_hashed_69 rfl ?_
        refine lv_iload_n hx hb d_M_hashed_70 rfl (lv_at hl 2 rfl) ?_
        refine lv_imul hx hb d_M_hashed_71 ?_
        refine zz_as (y := nI (2 * k)) (pk_mul 2 k) ?_
        refine lv_iload_n hx hb d_M_hashed_72 rfl (lv_at hl 1 rfl) ?_
        refine lv_iadd hx hb d_M_hashed_73 ?_
        refine zz_as (y := nI ((2 * k) + 1)) (nI_add (2 * k) 1) ?_
        refine mm_ald hx hb hK hP 13 (by decide) rfl ((2 * k) + 1) rfl (show (2 * k) + 1 < 16 from by omega) (ar 14 ((2 * k) + 1)) (rfl) d_M_hashed_74 ?_
        refine lv_iadd hx hb d_M_hashed_75 ?_
        refine zz_as (y := nI ((31 * ((31 * ((31 * (hs1 ar k 0 (hs ar k))) + (ar 11 ((2 * k) + 1)))) + (ar 12 ((2 * k) + 1)))) + (ar 14 ((2 * k) + 1)))) (nI_add (31 * ((31 * ((31 * (hs1 ar k 0 (hs ar k))) + (ar 11 ((2 * k) + 1)))) + (ar 12 ((2 * k) + 1)))) (ar 14 ((2 * k) + 1))) ?_
        refine lv_istore_n (lv' := [(1, .int (nI ((31 * ((31 * ((31 * (hs1 ar k 0 (hs ar k))) + (ar 11 ((2 * k) + 1)))) + (ar 12 ((2 * k) + 1)))) + (ar 14 ((2 * k) + 1))))), (3, .int 1), (2, .int (nI k)), (0, .ref (am 0))]) hx hb d_M_hashed_76 rfl hl (by decide) rfl (fun ls hl => ?_)
        have hl : lv_has ls 4 [(1, .int (nI (hs1 ar k 1 (hs1 ar k 0 (hs ar k))))), (3, .int 1), (2, .int (nI k)), (0, .ref (am 0))] := by rw [hs1_t hp]; exact hl
        refine lv_iinc (k := 1) (v := nI (1 + 1)) (lv' := [(3, .int (nI (1 + 1))), (1, .int (nI (hs1 ar k 1 (hs1 ar k 0 (hs ar k))))), (2, .int (nI k)), (0, .ref (am 0))]) hx hb d_M_hashed_77 hl rfl (nI_1 _) (by decide) rfl (fun ls hl => ?_)
        refine lv_goto (tgt := 15) hx hb d_M_hashed_80 rfl ?_
        have hl : lv_has ls 4 [(3, .int 2), (1, .int (nI (hs1 ar k 1 (hs1 ar k 0 (hs ar k))))), (2, .int (nI k)), (0, .ref (am 0))] := hl
        refine lv_iload_n hx hb d_M_hashed_15 rfl (lv_at hl 0 rfl) ?_
        refine lv_iconst (v := 2) hx hb d_M_hashed_16 rfl ?_
        refine lv_icmp_ge (tgt := 83) hx hb d_M_hashed_17 rfl (fun h17 => ?_) (fun h17 => absurd (by decide) h17)
        refine lv_iinc (k := 2) (v := nI (k + 1)) (lv' := [(2, .int (nI (k + 1))), (3, .int 2), (1, .int (nI (hs1 ar k 1 (hs1 ar k 0 (hs ar k))))), (0, .ref (am 0))]) hx hb d_M_hashed_83 hl rfl (nI_1 _) (by decide) rfl (fun ls hl => ?_)
        refine lv_goto (tgt := 5) hx hb d_M_hashed_86 rfl ?_
        have hl := lv_sub (l' := [(2, .int (nI (k + 1))), (1, .int (nI (hs1 ar k 1 (hs1 ar k 0 (hs ar k))))), (0, .ref (am 0))]) hl [0, 2, 3] rfl
        exact ih (k + 1) (by omega) ls hl
end MH

set_option maxHeartbeats 4000000 in
set_option maxRecDepth 100000 in
/-- hashed() -/
theorem k_hashedM (l : Launch) (D : va_G) (ca : Nat → ClassId) (am : Nat → Nat) (ar : Nat → Nat → Nat) (hI : mI am) (hl2 : ar 0 2 ≤ 8) (hbs : ∀ i, i < 16 → ar 11 i < 10007) : Met l y_M_hashed (Cond.code y_M_hashed c_M_hashed 4 (some .int) :: zT) ({ frames := 3, cells := 0, slots := 0, locals := 120 }) (va_Pc [.ref (am 0)] (mw D ca am ar)) (QcRead (nI (hsv ar))) 0 0 (fun _ => False) := by
  refine Met.ofW (cc := c_M_hashed) (maxL := 4) (ret := (some .int)) (by decide) rfl ?_
  intro p e s m args below meth c s₁ B hml hv
  obtain ⟨rfl, hK, hP⟩ := hv
  have hx := B.exec
  have hb := B.bytes
  have hr := B.returns
  have hts0 := atoms_spec (ws := Cond.code y_M_hashed c_M_hashed 4 (some .int) :: zT) B.pre
  have hts := fun w h => hts0 w (List.mem_cons_of_mem _ h)
  have hown : s.vm.findClass R_M = some m.cls := findClass_of_methodNamed B.named
  have hlocks := B.notSynchronized
  have hl := lv_entry ([.ref (am 0)]) (n := 4) (Nat.le_of_ble_eq_true rfl)
  rw [lg_entry_eq]
  generalize (lg_sl ([.ref (am 0)]) ++ List.replicate (4 - (lg_sl ([.ref (am 0)])).length) Slot.unset).toArray = ls at hl ⊢
  have hl : lv_has ls 4 [(0, .ref (am 0))] := hl
  refine lv_bipush (v := 17) hx hb d_M_hashed_0 rfl ?_
  refine lv_istore_n (lv' := [(1, .int 17), (0, .ref (am 0))]) hx hb d_M_hashed_2 rfl hl (by decide) rfl (fun ls hl => ?_)
  refine lv_iconst (v := 0) hx hb d_M_hashed_3 rfl ?_
  refine lv_istore_n (lv' := [(2, .int 0), (1, .int 17), (0, .ref (am 0))]) hx hb d_M_hashed_4 rfl hl (by decide) rfl (fun ls hl => ?_)
  have hl : lv_has ls 4 [(2, .int (nI 0)), (1, .int (nI (hs ar 0))), (0, .ref (am 0))] := hl
  refine hashed_loop hx hb hml hown hts hK (mI_D hI) hI (fun _ q => q) (by decide) (by decide) (Nat.zero_le _) (Nat.zero_le _) hl2 hbs hP (fun ls hl => ?_) (ar 0 2) 0 (Nat.zero_add _) ls hl
  refine lv_iload_n hx hb d_M_hashed_89 rfl (lv_at hl 0 rfl) ?_
  refine lv_ldc (v := 2147483647) hx hb hown (hts _ mn_M_181) d_M_hashed_90 ?_
  refine lv_iand hx hb d_M_hashed_92 ?_
  refine zz_as (y := nI (hs ar (ar 0 2) % 2147483648)) (zn_and _) ?_
  refine lv_sipush (v := 5003) hx hb d_M_hashed_93 rfl ?_
  refine lv_irem hx hb d_M_hashed_96 (by decide) ?_
  refine zz_as (y := nI (hsv ar)) (pk_rem (d := 5003) (Nat.mod_lt _ (by decide)) (by decide) (by decide)) ?_
  exact W.iret hx hb hr (fun t ht hW => ⟨rfl, ht⟩) (fun q h => absurd h List.not_mem_nil) d_M_hashed_97

theorem d_M_hash_0 : decode c_M_hash 0 = .ok (.aload_n 0, 1) := by decide +kernel
theorem d_M_hash_1 : decode c_M_hash 1 = .ok (.getfield 122, 3) := by decide +kernel
theorem d_M_hash_4 : decode c_M_hash 4 = .ok (.ifCond .ne 8, 3) := by decide +kernel
theorem d_M_hash_7 : decode c_M_hash 7 = .ok (.bipush (-2), 2) := by decide +kernel
theorem d_M_hash_9 : decode c_M_hash 9 = .ok (.goto 7, 3) := by decide +kernel
theorem d_M_hash_12 : decode c_M_hash 12 = .ok (.aload_n 0, 1) := by decide +kernel
theorem d_M_hash_13 : decode c_M_hash 13 = .ok (.invokevirtual 186, 3) := by decide +kernel
theorem d_M_hash_16 : decode c_M_hash 16 = .ok (.ireturn, 1) := by decide +kernel

set_option maxHeartbeats 4000000 in
set_option maxRecDepth 100000 in
/-- hash() -/
theorem k_hashM (l : Launch) (D : va_G) (ca : Nat → ClassId) (am : Nat → Nat) (ar : Nat → Nat → Nat) (hI : mI am) (hs1 : ar 0 1 ≤ 15) (hl2 : ar 0 2 ≤ 8) (hbs : ∀ i, i < 16 → ar 11 i < 10007) : Met l y_M_hash (Cond.code y_M_hash c_M_hash 1 (some .int) :: zT) ({ frames := 4, cells := 0, slots := 0, locals := 160 }) (va_Pc [.ref (am 0)] (mw D ca am ar)) (QcRead (if ar 0 1 = 0 then -2 else nI (hsv ar))) 0 0 (fun _ => False) := by
  refine Met.ofW (cc := c_M_hash) (maxL := 1) (ret := (some .int)) (by decide) rfl ?_
  intro p e s m args below meth c s₁ B hml hv
  obtain ⟨rfl, hK, hP⟩ := hv
  have hx := B.exec
  have hb := B.bytes
  have hr := B.returns
  have hts0 := atoms_spec (ws := Cond.code y_M_hash c_M_hash 1 (some .int) :: zT) B.pre
  have hts := fun w h => hts0 w (List.mem_cons_of_mem _ h)
  have hown : s.vm.findClass R_M = some m.cls := findClass_of_methodNamed B.named
  have hlocks := B.notSynchronized
  have hl := lv_entry ([.ref (am 0)]) (n := 1) (Nat.le_of_ble_eq_true rfl)
  rw [lg_entry_eq]
  generalize (lg_sl ([.ref (am 0)]) ++ List.replicate (1 - (lg_sl ([.ref (am 0)])).length) Slot.unset).toArray = ls at hl ⊢
  have hl : lv_has ls 1 [(0, .ref (am 0))] := hl
  refine lv_aload_n hx hb d_M_hash_0 rfl (lv_at hl 0 rfl) ?_
  refine mm_get hx hb hts hown hK hP (index := 122) 28 (by decide) mf_M_122 (v := .int (nI (ar 0 1))) rfl d_M_hash_1 ?_
  refine lv_if_ne (tgt := 12) hx hb d_M_hash_4 rfl (fun h4 => ?_) (fun h4 => ?_)
  · skip
    have z : ¬ ar 0 1 = 0 := fun q => h4 (by rw [q]; rfl)
    have hq : (if ar 0 1 = 0 then -2 else nI (hsv ar)) = nI (hsv ar) := by rw [if_neg z]
    refine lv_aload_n hx hb d_M_hash_12 rfl (lv_at hl 0 rfl) ?_
    refine zz_cV (index := 186) (n := 0) (As := []) (rest := []) ⟨hx, hb, hml, hown, hts⟩ (k_hashedM l D ca am (ar) hI hl2 hbs) mk_M_186 mo_M_hashed me_M_M_hashed_M mi_M mc_M_hashed (by decide +kernel) ⟨rfl, rfl⟩ ⟨by decide, by decide⟩ (mm_pre hK hP) rfl hl.1 rfl (Nat.le_of_ble_eq_true rfl) d_M_hash_13 ⟨Nat.zero_le _, Nat.zero_le _⟩ ?_
    refine zz_as (y := if ar 0 1 = 0 then -2 else nI (hsv ar)) (hq.symm) ?_
    exact W.iret hx hb hr (fun t ht hW => ⟨rfl, ht⟩) (fun q h => absurd h List.not_mem_nil) d_M_hash_16
  · skip
    have z : ar 0 1 = 0 := (zn_inj (by omega) (by decide)).mp h4
    have hq : (if ar 0 1 = 0 then -2 else nI (hsv ar)) = (-2 : Int32) := by rw [if_pos z]
    refine lv_bipush (v := (-2)) hx hb d_M_hash_7 rfl ?_
    refine lv_goto (tgt := 16) hx hb d_M_hash_9 rfl ?_
    refine zz_as (y := if ar 0 1 = 0 then -2 else nI (hsv ar)) (hq.symm) ?_
    exact W.iret hx hb hr (fun t ht hW => ⟨rfl, ht⟩) (fun q h => absurd h List.not_mem_nil) d_M_hash_16

theorem d_M_joined_0 : decode c_M_joined 0 = .ok (.iconst 0, 1) := by decide +kernel
theorem d_M_joined_1 : decode c_M_joined 1 = .ok (.istore_n 2, 1) := by decide +kernel
theorem d_M_joined_2 : decode c_M_joined 2 = .ok (.iload_n 2, 1) := by decide +kernel
theorem d_M_joined_3 : decode c_M_joined 3 = .ok (.aload_n 0, 1) := by decide +kernel
theorem d_M_joined_4 : decode c_M_joined 4 = .ok (.getfield 122, 3) := by decide +kernel
theorem d_M_joined_7 : decode c_M_joined 7 = .ok (.if_icmp .ge 132, 3) := by decide +kernel
theorem d_M_joined_10 : decode c_M_joined 10 = .ok (.aload_n 0, 1) := by decide +kernel
theorem d_M_joined_11 : decode c_M_joined 11 = .ok (.getfield 28, 3) := by decide +kernel
theorem d_M_joined_14 : decode c_M_joined 14 = .ok (.iload_n 2, 1) := by decide +kernel
theorem d_M_joined_15 : decode c_M_joined 15 = .ok (.iaload, 1) := by decide +kernel
theorem d_M_joined_16 : decode c_M_joined 16 = .ok (.ifCond .ne 41, 3) := by decide +kernel
theorem d_M_joined_19 : decode c_M_joined 19 = .ok (.aload_n 0, 1) := by decide +kernel
theorem d_M_joined_20 : decode c_M_joined 20 = .ok (.getfield 86, 3) := by decide +kernel
theorem d_M_joined_23 : decode c_M_joined 23 = .ok (.iload_n 2, 1) := by decide +kernel
theorem d_M_joined_24 : decode c_M_joined 24 = .ok (.iload_n 1, 1) := by decide +kernel
theorem d_M_joined_25 : decode c_M_joined 25 = .ok (.ifCond .eq 17, 3) := by decide +kernel
theorem d_M_joined_28 : decode c_M_joined 28 = .ok (.aload_n 0, 1) := by decide +kernel
theorem d_M_joined_29 : decode c_M_joined 29 = .ok (.getfield 61, 3) := by decide +kernel
theorem d_M_joined_32 : decode c_M_joined 32 = .ok (.aload_n 0, 1) := by decide +kernel
theorem d_M_joined_33 : decode c_M_joined 33 = .ok (.getfield 37, 3) := by decide +kernel
theorem d_M_joined_36 : decode c_M_joined 36 = .ok (.iload_n 2, 1) := by decide +kernel
theorem d_M_joined_37 : decode c_M_joined 37 = .ok (.iaload, 1) := by decide +kernel
theorem d_M_joined_38 : decode c_M_joined 38 = .ok (.iaload, 1) := by decide +kernel
theorem d_M_joined_39 : decode c_M_joined 39 = .ok (.goto 14, 3) := by decide +kernel
theorem d_M_joined_42 : decode c_M_joined 42 = .ok (.aload_n 0, 1) := by decide +kernel
theorem d_M_joined_43 : decode c_M_joined 43 = .ok (.getfield 52, 3) := by decide +kernel
theorem d_M_joined_46 : decode c_M_joined 46 = .ok (.aload_n 0, 1) := by decide +kernel
theorem d_M_joined_47 : decode c_M_joined 47 = .ok (.getfield 37, 3) := by decide +kernel
theorem d_M_joined_50 : decode c_M_joined 50 = .ok (.iload_n 2, 1) := by decide +kernel
theorem d_M_joined_51 : decode c_M_joined 51 = .ok (.iaload, 1) := by decide +kernel
theorem d_M_joined_52 : decode c_M_joined 52 = .ok (.iaload, 1) := by decide +kernel
theorem d_M_joined_53 : decode c_M_joined 53 = .ok (.iastore, 1) := by decide +kernel
theorem d_M_joined_54 : decode c_M_joined 54 = .ok (.goto 79, 3) := by decide +kernel
theorem d_M_joined_57 : decode c_M_joined 57 = .ok (.aload_n 0, 1) := by decide +kernel
theorem d_M_joined_58 : decode c_M_joined 58 = .ok (.getfield 86, 3) := by decide +kernel
theorem d_M_joined_61 : decode c_M_joined 61 = .ok (.aload_n 0, 1) := by decide +kernel
theorem d_M_joined_62 : decode c_M_joined 62 = .ok (.getfield 31, 3) := by decide +kernel
theorem d_M_joined_65 : decode c_M_joined 65 = .ok (.iload_n 2, 1) := by decide +kernel
theorem d_M_joined_66 : decode c_M_joined 66 = .ok (.iaload, 1) := by decide +kernel
theorem d_M_joined_67 : decode c_M_joined 67 = .ok (.iaload, 1) := by decide +kernel
theorem d_M_joined_68 : decode c_M_joined 68 = .ok (.istore_n 3, 1) := by decide +kernel
theorem d_M_joined_69 : decode c_M_joined 69 = .ok (.aload_n 0, 1) := by decide +kernel
theorem d_M_joined_70 : decode c_M_joined 70 = .ok (.getfield 86, 3) := by decide +kernel
theorem d_M_joined_73 : decode c_M_joined 73 = .ok (.aload_n 0, 1) := by decide +kernel
theorem d_M_joined_74 : decode c_M_joined 74 = .ok (.getfield 34, 3) := by decide +kernel
theorem d_M_joined_77 : decode c_M_joined 77 = .ok (.iload_n 2, 1) := by decide +kernel
theorem d_M_joined_78 : decode c_M_joined 78 = .ok (.iaload, 1) := by decide +kernel
theorem d_M_joined_79 : decode c_M_joined 79 = .ok (.iaload, 1) := by decide +kernel
theorem d_M_joined_80 : decode c_M_joined 80 = .ok (.istore 4, 2) := by decide +kernel
theorem d_M_joined_82 : decode c_M_joined 82 = .ok (.aload_n 0, 1) := by decide +kernel
theorem d_M_joined_83 : decode c_M_joined 83 = .ok (.getfield 86, 3) := by decide +kernel
theorem d_M_joined_86 : decode c_M_joined 86 = .ok (.iload_n 2, 1) := by decide +kernel
theorem d_M_joined_87 : decode c_M_joined 87 = .ok (.iload_n 3, 1) := by decide +kernel
theorem d_M_joined_88 : decode c_M_joined 88 = .ok (.ifCond .lt 8, 3) := by decide +kernel
theorem d_M_joined_91 : decode c_M_joined 91 = .ok (.iload 4, 2) := by decide +kernel
theorem d_M_joined_93 : decode c_M_joined 93 = .ok (.ifCond .ge 7, 3) := by decide +kernel
theorem d_M_joined_96 : decode c_M_joined 96 = .ok (.iconst (-1), 1) := by decide +kernel
theorem d_M_joined_97 : decode c_M_joined 97 = .ok (.goto 35, 3) := by decide +kernel
theorem d_M_joined_100 : decode c_M_joined 100 = .ok (.aload_n 0, 1) := by decide +kernel
theorem d_M_joined_101 : decode c_M_joined 101 = .ok (.getfield 28, 3) := by decide +kernel
theorem d_M_joined_104 : decode c_M_joined 104 = .ok (.iload_n 2, 1) := by decide +kernel
theorem d_M_joined_105 : decode c_M_joined 105 = .ok (.iaload, 1) := by decide +kernel
theorem d_M_joined_106 : decode c_M_joined 106 = .ok (.iconst 2, 1) := by decide +kernel
theorem d_M_joined_107 : decode c_M_joined 107 = .ok (.if_icmp .ne 14, 3) := by decide +kernel
theorem d_M_joined_110 : decode c_M_joined 110 = .ok (.iload_n 3, 1) := by decide +kernel
theorem d_M_joined_111 : decode c_M_joined 111 = .ok (.iload 4, 2) := by decide +kernel
theorem d_M_joined_113 : decode c_M_joined 113 = .ok (.iadd, 1) := by decide +kernel
theorem d_M_joined_114 : decode c_M_joined 114 = .ok (.sipush 5003, 3) := by decide +kernel
theorem d_M_joined_117 : decode c_M_joined 117 = .ok (.irem, 1) := by decide +kernel
theorem d_M_joined_118 : decode c_M_joined 118 = .ok (.goto 14, 3) := by decide +kernel
theorem d_M_joined_121 : decode c_M_joined 121 = .ok (.iload_n 3, 1) := by decide +kernel
theorem d_M_joined_122 : decode c_M_joined 122 = .ok (.iload 4, 2) := by decide +kernel
theorem d_M_joined_124 : decode c_M_joined 124 = .ok (.if_icmp .ne 7, 3) := by decide +kernel
theorem d_M_joined_127 : decode c_M_joined 127 = .ok (.iload_n 3, 1) := by decide +kernel
theorem d_M_joined_128 : decode c_M_joined 128 = .ok (.goto 4, 3) := by decide +kernel
theorem d_M_joined_131 : decode c_M_joined 131 = .ok (.iconst (-1), 1) := by decide +kernel
theorem d_M_joined_132 : decode c_M_joined 132 = .ok (.iastore, 1) := by decide +kernel
theorem d_M_joined_133 : decode c_M_joined 133 = .ok (.iinc 2 1, 3) := by decide +kernel
theorem d_M_joined_136 : decode c_M_joined 136 = .ok (.goto (-134), 3) := by decide +kernel
theorem d_M_joined_139 : decode c_M_joined 139 = .ok (.aload_n 0, 1) := by decide +kernel
theorem d_M_joined_140 : decode c_M_joined 140 = .ok (.getfield 86, 3) := by decide +kernel
theorem d_M_joined_143 : decode c_M_joined 143 = .ok (.aload_n 0, 1) := by decide +kernel
theorem d_M_joined_144 : decode c_M_joined 144 = .ok (.getfield 122, 3) := by decide +kernel
theorem d_M_joined_147 : decode c_M_joined 147 = .ok (.iconst 1, 1) := by decide +kernel
theorem d_M_joined_148 : decode c_M_joined 148 = .ok (.isub, 1) := by decide +kernel
theorem d_M_joined_149 : decode c_M_joined 149 = .ok (.iaload, 1) := by decide +kernel
theorem d_M_joined_150 : decode c_M_joined 150 = .ok (.ireturn, 1) := by decide +kernel

section MJ
variable {p : Program} {l : Launch} {e : Env} {R : Room} {s : State} {m : MethodId} {args : Array Value} {below : List Frame} {meth : Method} {c : Code} {H0 : Heap} {cells slots : Nat} {Q : State → Prop} {A : Nat → Prop} {D : va_G} {ca : Nat → ClassId} {am : Nat → Nat} {ar : Nat → Nat → Nat}
set_option maxHeartbeats 4000000 in
set_option maxRecDepth 100000 in
theorem joined_loop (hx : p.tables.exec = Jvm.exec) (hb : c.code = c_M_joined) (hml : c.maxLocals = 5) (hown : s.vm.findClass R_M = some m.cls) (hts : ∀ w ∈ zT, w.before args s = true) (hK : va_K D zC (zty ca) s) (hD : zD A 28 am) (old : Bool) (hT : tT ar) (hN8 : tN ar) (kk : ∀ (h : Nat → Nat) (H : Heap) (locs : List Loc) (ls : Array Slot), vOK ar (cR old) h (ar 0 1) → vB h (ar 0 1) → va_P D zC (zl 28 am (mct ca am (va_up ar 26 h))) H → va_S A H0 H locs → lv_has ls 5 [(0, .ref (am 0))] → W p l e R s m args below meth c H locs cells slots Q (F0 m 139 ls [])) : ∀ (j k : Nat), k + j = ar 0 1 → ∀ (h : Nat → Nat) (H : Heap) (locs : List Loc) (ls : Array Slot), vOK ar (cR old) h k → vB h k → va_P D zC (zl 28 am (mct ca am (va_up ar 26 h))) H → va_S A H0 H locs → lv_has ls 5 [(2, .int (nI k)), (1, .int (zb old)), (0, .ref (am 0))] → W p l e R s m args below meth c H locs cells slots Q (F0 m 2 ls []) := by
  have hs1 := hT.1
  have hl2 := hT.2.1
  intro j
  induction j with
  | zero =>
    intro k hk h H locs ls hk0 hh hP hS hl
    obtain rfl : k = ar 0 1 := by omega
    refine lv_iload_n hx hb d_M_joined_2 rfl (lv_at hl 0 rfl) ?_
    refine lv_aload_n hx hb d_M_joined_3 rfl (lv_at hl 2 rfl) ?_
    refine mm_get hx hb hts hown hK hP (index := 122) 28 (by decide) mf_M_122 (v := .int (nI (ar 0 1))) rfl d_M_joined_4 ?_
    refine lv_icmp_ge (tgt := 139) hx hb d_M_joined_7 rfl (fun h7 => ?_) (fun h7 => absurd (Int32.le_refl _) h7)
    have hl := lv_sub (l' := [(0, .ref (am 0))]) hl [2] rfl
    exact kk h H locs ls hk0 hh hP hS hl
  | succ j ih =>
    intro k hk h H locs ls hk0 hh hP hS hl
    have hN : k < ar 0 1 := by omega
    obtain ⟨hkd, hlf, hch⟩ := hT.2.2 k hN
    rcases (show ar 7 k = 0 ∨ ar 7 k = 1 ∨ ar 7 k = 2 by omega) with c0 | c0 | c0
    · cases old with
      | false =>
        have hlf := hlf c0
        have hb8 := hN8.2 (ar 10 k) (by omega)
        refine lv_iload_n hx hb d_M_joined_2 rfl (lv_at hl 0 rfl) ?_
        refine lv_aload_n hx hb d_M_joined_3 rfl (lv_at hl 2 rfl) ?_
        refine mm_get hx hb hts hown hK hP (index := 122) 28 (by decide) mf_M_122 (v := .int (nI (ar 0 1))) rfl d_M_joined_4 ?_
        refine lv_icmp_ge (tgt := 139) hx hb d_M_joined_7 rfl (fun h7 => absurd h7 (nI_ge hN (by omega))) (fun h7 => ?_)
        refine lv_aload_n hx hb d_M_joined_10 rfl (lv_at hl 2 rfl) ?_
        refine mm_get hx hb hts hown hK hP (index := 28) 6 (by decide) mf_M_28 (v := .ref (am 7)) rfl d_M_joined_11 ?_
        refine lv_iload_n hx hb d_M_joined_14 rfl (lv_at hl 0 rfl) ?_
        refine mm_ald hx hb hK hP 6 (by decide) rfl (k) rfl (show k < 15 from by omega) (ar 7 k) (rfl) d_M_joined_15 ?_
        refine lv_if_ne (tgt := 57) hx hb d_M_joined_16 rfl (fun h16 => absurd (by rw [c0]; rfl) h16) (fun h16 => ?_)
        refine lv_aload_n hx hb d_M_joined_19 rfl (lv_at hl 2 rfl) ?_
        refine mm_get hx hb hts hown hK hP (index := 86) 25 (by decide) mf_M_86 (v := .ref (am 26)) rfl d_M_joined_20 ?_
        refine lv_iload_n hx hb d_M_joined_23 rfl (lv_at hl 0 rfl) ?_
        refine lv_iload_n hx hb d_M_joined_24 rfl (lv_at hl 1 rfl) ?_
        refine lv_if_eq (tgt := 42) hx hb d_M_joined_25 rfl (fun h25 => ?_) (fun h25 => absurd (rfl) h25)
        refine lv_aload_n hx hb d_M_joined_42 rfl (lv_at hl 2 rfl) ?_
        refine mm_get hx hb hts hown hK hP (index := 52) 14 (by decide) mf_M_52 (v := .ref (am 15)) rfl d_M_joined_43 ?_
        refine lv_aload_n hx hb d_M_joined_46 rfl (lv_at hl 2 rfl) ?_
        refine mm_get hx hb hts hown hK hP (index := 37) 9 (by decide) mf_M_37 (v := .ref (am 10)) rfl d_M_joined_47 ?_
        refine lv_iload_n hx hb d_M_joined_50 rfl (lv_at hl 0 rfl) ?_
        refine mm_ald hx hb hK hP 9 (by decide) rfl (k) rfl (show k < 15 from by omega) (ar 10 k) (rfl) d_M_joined_51 ?_
        refine mm_ald hx hb hK hP 14 (by decide) rfl (ar 10 k) rfl (show ar 10 k < 8 from by omega) (ar 15 (ar 10 k)) (rfl) d_M_joined_52 ?_
        have hv : ar 15 (ar 10 k) = vv ar (cR false) h k := by unfold vv; rw [if_pos c0]; rfl
        have hv2 : ar 15 (ar 10 k) < 5003 ∨ ar 15 (ar 10 k) = 4294967295 := by omega
        refine mm_ast hx hb hK hP hD hS 25 (by decide) rfl (k) rfl (show k < 15 from by omega) (ar 15 (ar 10 k)) (rfl) d_M_joined_53 (fun H locs hP hS => ?_)
        refine lv_goto (tgt := 133) hx hb d_M_joined_54 rfl ?_
        refine lv_iinc (k := 0) (v := nI (k + 1)) (lv' := [(2, .int (nI (k + 1))), (1, .int (zb false)), (0, .ref (am 0))]) hx hb d_M_joined_133 hl rfl (nI_1 _) (by decide) rfl (fun ls hl => ?_)
        refine lv_goto (tgt := 2) hx hb d_M_joined_136 rfl ?_
        rw [zs_up] at hP
        have hl := lv_sub (l' := [(2, .int (nI (k + 1))), (1, .int (zb false)), (0, .ref (am 0))]) hl [0, 1, 2] rfl
        exact ih (k + 1) (by omega) (va_up h k (ar 15 (ar 10 k))) H locs ls (vOK_s hk0 hT hN hv) (vB_s hh hv2) hP hS hl
      | true =>
        have hlf := hlf c0
        have hb8 := hN8.2 (ar 10 k) (by omega)
        refine lv_iload_n hx hb d_M_joined_2 rfl (lv_at hl 0 rfl) ?_
        refine lv_aload_n hx hb d_M_joined_3 rfl (lv_at hl 2 rfl) ?_
        refine mm_get hx hb hts hown hK hP (index := 122) 28 (by decide) mf_M_122 (v := .int (nI (ar 0 1))) rfl d_M_joined_4 ?_
        refine lv_icmp_ge (tgt := 139) hx hb d_M_joined_7 rfl (fun h7 => absurd h7 (nI_ge hN (by omega))) (fun h7 => ?_)
        refine lv_aload_n hx hb d_M_joined_10 rfl (lv_at hl 2 rfl) ?_
        refine mm_get hx hb hts hown hK hP (index := 28) 6 (by decide) mf_M_28 (v := .ref (am 7)) rfl d_M_joined_11 ?_
        refine lv_iload_n hx hb d_M_joined_14 rfl (lv_at hl 0 rfl) ?_
        refine mm_ald hx hb hK hP 6 (by decide) rfl (k) rfl (show k < 15 from by omega) (ar 7 k) (rfl) d_M_joined_15 ?_
        refine lv_if_ne (tgt := 57) hx hb d_M_joined_16 rfl (fun h16 => absurd (by rw [c0]; rfl) h16) (fun h16 => ?_)
        refine lv_aload_n hx hb d_M_joined_19 rfl (lv_at hl 2 rfl) ?_
        refine mm_get hx hb hts hown hK hP (index := 86) 25 (by decide) mf_M_86 (v := .ref (am 26)) rfl d_M_joined_20 ?_
        refine lv_iload_n hx hb d_M_joined_23 rfl (lv_at hl 0 rfl) ?_
        refine lv_iload_n hx hb d_M_joined_24 rfl (lv_at hl 1 rfl) ?_
        refine lv_if_eq (tgt := 42) hx hb d_M_joined_25 rfl (fun h25 => absurd h25 (by decide)) (fun h25 => ?_)
        refine lv_aload_n hx hb d_M_joined_28 rfl (lv_at hl 2 rfl) ?_
        refine mm_get hx hb hts hown hK hP (index := 61) 17 (by decide) mf_M_61 (v := .ref (am 18)) rfl d_M_joined_29 ?_
        refine lv_aload_n hx hb d_M_joined_32 rfl (lv_at hl 2 rfl) ?_
        refine mm_get hx hb hts hown hK hP (index := 37) 9 (by decide) mf_M_37 (v := .ref (am 10)) rfl d_M_joined_33 ?_
        refine lv_iload_n hx hb d_M_joined_36 rfl (lv_at hl 0 rfl) ?_
        refine mm_ald hx hb hK hP 9 (by decide) rfl (k) rfl (show k < 15 from by omega) (ar 10 k) (rfl) d_M_joined_37 ?_
        refine mm_ald hx hb hK hP 17 (by decide) rfl (ar 10 k) rfl (show ar 10 k < 8 from by omega) (ar 18 (ar 10 k)) (rfl) d_M_joined_38 ?_
        refine lv_goto (tgt := 53) hx hb d_M_joined_39 rfl ?_
        have hv : ar 18 (ar 10 k) = vv ar (cR true) h k := by unfold vv; rw [if_pos c0]; rfl
        have hv2 : ar 18 (ar 10 k) < 5003 ∨ ar 18 (ar 10 k) = 4294967295 := by omega
        refine mm_ast hx hb hK hP hD hS 25 (by decide) rfl (k) rfl (show k < 15 from by omega) (ar 18 (ar 10 k)) (rfl) d_M_joined_53 (fun H locs hP hS => ?_)
        refine lv_goto (tgt := 133) hx hb d_M_joined_54 rfl ?_
        refine lv_iinc (k := 0) (v := nI (k + 1)) (lv' := [(2, .int (nI (k + 1))), (1, .int (zb true)), (0, .ref (am 0))]) hx hb d_M_joined_133 hl rfl (nI_1 _) (by decide) rfl (fun ls hl => ?_)
        refine lv_goto (tgt := 2) hx hb d_M_joined_136 rfl ?_
        rw [zs_up] at hP
        have hl := lv_sub (l' := [(2, .int (nI (k + 1))), (1, .int (zb true)), (0, .ref (am 0))]) hl [0, 1, 2] rfl
        exact ih (k + 1) (by omega) (va_up h k (ar 18 (ar 10 k))) H locs ls (vOK_s hk0 hT hN hv) (vB_s hh hv2) hP hS hl
    · skip
      have hch := hch (by rw [c0]; decide)
      have hb1 := hh _ hch.1
      have hb2 := hh _ hch.2
      have hc0 : ¬ ar 7 k = 0 := by rw [c0]; decide
      have ha : h (ar 8 k) < 2 ^ 32 := by omega
      have hb0 : h (ar 9 k) < 2 ^ 32 := by omega
      refine lv_iload_n hx hb d_M_joined_2 rfl (lv_at hl 0 rfl) ?_
      refine lv_aload_n hx hb d_M_joined_3 rfl (lv_at hl 2 rfl) ?_
      refine mm_get hx hb hts hown hK hP (index := 122) 28 (by decide) mf_M_122 (v := .int (nI (ar 0 1))) rfl d_M_joined_4 ?_
      refine lv_icmp_ge (tgt := 139) hx hb d_M_joined_7 rfl (fun h7 => absurd h7 (nI_ge hN (by omega))) (fun h7 => ?_)
      refine lv_aload_n hx hb d_M_joined_10 rfl (lv_at hl 2 rfl) ?_
      refine mm_get hx hb hts hown hK hP (index := 28) 6 (by decide) mf_M_28 (v := .ref (am 7)) rfl d_M_joined_11 ?_
      refine lv_iload_n hx hb d_M_joined_14 rfl (lv_at hl 0 rfl) ?_
      refine mm_ald hx hb hK hP 6 (by decide) rfl (k) rfl (show k < 15 from by omega) (ar 7 k) (rfl) d_M_joined_15 ?_
      refine lv_if_ne (tgt := 57) hx hb d_M_joined_16 rfl (fun h16 => ?_) (fun h16 => absurd h16 (by rw [c0]; decide))
      refine lv_aload_n hx hb d_M_joined_57 rfl (lv_at hl 2 rfl) ?_
      refine mm_get hx hb hts hown hK hP (index := 86) 25 (by decide) mf_M_86 (v := .ref (am 26)) rfl d_M_joined_58 ?_
      refine lv_aload_n hx hb d_M_joined_61 rfl (lv_at hl 2 rfl) ?_
      refine mm_get hx hb hts hown hK hP (index := 31) 7 (by decide) mf_M_31 (v := .ref (am 8)) rfl d_M_joined_62 ?_
      refine lv_iload_n hx hb d_M_joined_65 rfl (lv_at hl 0 rfl) ?_
      refine mm_ald hx hb hK hP 7 (by decide) rfl (k) rfl (show k < 15 from by omega) (ar 8 k) (rfl) d_M_joined_66 ?_
      refine mm_ald hx hb hK hP 25 (by decide) rfl (ar 8 k) rfl (show ar 8 k < 15 from by omega) (h (ar 8 k)) (rfl) d_M_joined_67 ?_
      refine lv_istore_n (lv' := [(3, .int (nI (h (ar 8 k)))), (2, .int (nI k)), (1, .int (zb old)), (0, .ref (am 0))]) hx hb d_M_joined_68 rfl hl (by decide) rfl (fun ls hl => ?_)
      refine lv_aload_n hx hb d_M_joined_69 rfl (lv_at hl 3 rfl) ?_
      refine mm_get hx hb hts hown hK hP (index := 86) 25 (by decide) mf_M_86 (v := .ref (am 26)) rfl d_M_joined_70 ?_
      refine lv_aload_n hx hb d_M_joined_73 rfl (lv_at hl 3 rfl) ?_
      refine mm_get hx hb hts hown hK hP (index := 34) 8 (by decide) mf_M_34 (v := .ref (am 9)) rfl d_M_joined_74 ?_
      refine lv_iload_n hx hb d_M_joined_77 rfl (lv_at hl 1 rfl) ?_
      refine mm_ald hx hb hK hP 8 (by decide) rfl (k) rfl (show k < 15 from by omega) (ar 9 k) (rfl) d_M_joined_78 ?_
      refine mm_ald hx hb hK hP 25 (by decide) rfl (ar 9 k) rfl (show ar 9 k < 15 from by omega) (h (ar 9 k)) (rfl) d_M_joined_79 ?_
      refine lv_istore (lv' := [(4, .int (nI (h (ar 9 k)))), (3, .int (nI (h (ar 8 k)))), (2, .int (nI k)), (1, .int (zb old)), (0, .ref (am 0))]) hx hb d_M_joined_80 hl (by decide) rfl (fun ls hl => ?_)
      refine lv_aload_n hx hb d_M_joined_82 rfl (lv_at hl 4 rfl) ?_
      refine mm_get hx hb hts hown hK hP (index := 86) 25 (by decide) mf_M_86 (v := .ref (am 26)) rfl d_M_joined_83 ?_
      refine lv_iload_n hx hb d_M_joined_86 rfl (lv_at hl 2 rfl) ?_
      refine lv_iload_n hx hb d_M_joined_87 rfl (lv_at hl 1 rfl) ?_
      refine lv_if_lt (tgt := 96) hx hb d_M_joined_88 rfl (fun h88 => ?_) (fun h88 => ?_)
      · skip
        have a1 := (zn_lt0 ha).mp h88
        have hv : 4294967295 = vv ar (cR old) h k := by unfold vv; rw [if_neg hc0, if_neg (by omega)]
        have hv2 : 4294967295 < 5003 ∨ 4294967295 = 4294967295 := Or.inr rfl
        refine lv_iconst (v := (-1)) hx hb d_M_joined_96 rfl ?_
        refine lv_goto (tgt := 132) hx hb d_M_joined_97 rfl ?_
        refine mm_ast hx hb hK hP hD hS 25 (by decide) rfl (k) rfl (show k < 15 from by omega) (4294967295) (zn_m1.symm) d_M_joined_132 (fun H locs hP hS => ?_)
        refine lv_iinc (k := 2) (v := nI (k + 1)) (lv' := [(2, .int (nI (k + 1))), (4, .int (nI (h (ar 9 k)))), (3, .int (nI (h (ar 8 k)))), (1, .int (zb old)), (0, .ref (am 0))]) hx hb d_M_joined_133 hl rfl (nI_1 _) (by decide) rfl (fun ls hl => ?_)
        refine lv_goto (tgt := 2) hx hb d_M_joined_136 rfl ?_
        rw [zs_up] at hP
        have hl := lv_sub (l' := [(2, .int (nI (k + 1))), (1, .int (zb old)), (0, .ref (am 0))]) hl [0, 3, 4] rfl
        exact ih (k + 1) (by omega) (va_up h k (4294967295)) H locs ls (vOK_s hk0 hT hN hv) (vB_s hh hv2) hP hS hl
      · skip
        have a1 := mt (zn_lt0 ha).mpr h88
        refine lv_iload hx hb d_M_joined_91 (lv_at hl 0 rfl) ?_
        refine lv_if_ge (tgt := 100) hx hb d_M_joined_93 rfl (fun h93 => ?_) (fun h93 => ?_)
        · skip
          have b1 := (zn_ge0 hb0).mp h93
          refine lv_aload_n hx hb d_M_joined_100 rfl (lv_at hl 4 rfl) ?_
          refine mm_get hx hb hts hown hK hP (index := 28) 6 (by decide) mf_M_28 (v := .ref (am 7)) rfl d_M_joined_101 ?_
          refine lv_iload_n hx hb d_M_joined_104 rfl (lv_at hl 2 rfl) ?_
          refine mm_ald hx hb hK hP 6 (by decide) rfl (k) rfl (show k < 15 from by omega) (ar 7 k) (rfl) d_M_joined_105 ?_
          refine lv_iconst (v := 2) hx hb d_M_joined_106 rfl ?_
          refine lv_icmp_ne (tgt := 121) hx hb d_M_joined_107 rfl (fun h107 => ?_) (fun h107 => absurd h107 (by rw [c0]; decide))
          refine lv_iload_n hx hb d_M_joined_121 rfl (lv_at hl 1 rfl) ?_
          refine lv_iload hx hb d_M_joined_122 (lv_at hl 0 rfl) ?_
          refine lv_icmp_ne (tgt := 131) hx hb d_M_joined_124 rfl (fun h124 => ?_) (fun h124 => ?_)
          · skip
            have e1 : ¬ h (ar 8 k) = h (ar 9 k) := fun q => h124 (by rw [q])
            have hv : 4294967295 = vv ar (cR old) h k := by unfold vv; rw [if_neg hc0, if_pos (by omega), if_neg (by rw [c0]; decide), if_neg e1]
            have hv2 : 4294967295 < 5003 ∨ 4294967295 = 4294967295 := Or.inr rfl
            refine lv_iconst (v := (-1)) hx hb d_M_joined_131 rfl ?_
            refine mm_ast hx hb hK hP hD hS 25 (by decide) rfl (k) rfl (show k < 15 from by omega) (4294967295) (zn_m1.symm) d_M_joined_132 (fun H locs hP hS => ?_)
            refine lv_iinc (k := 2) (v := nI (k + 1)) (lv' := [(2, .int (nI (k + 1))), (4, .int (nI (h (ar 9 k)))), (3, .int (nI (h (ar 8 k)))), (1, .int (zb old)), (0, .ref (am 0))]) hx hb d_M_joined_133 hl rfl (nI_1 _) (by decide) rfl (fun ls hl => ?_)
            refine lv_goto (tgt := 2) hx hb d_M_joined_136 rfl ?_
            rw [zs_up] at hP
            have hl := lv_sub (l' := [(2, .int (nI (k + 1))), (1, .int (zb old)), (0, .ref (am 0))]) hl [0, 3, 4] rfl
            exact ih (k + 1) (by omega) (va_up h k (4294967295)) H locs ls (vOK_s hk0 hT hN hv) (vB_s hh hv2) hP hS hl
          · skip
            have e1 : h (ar 8 k) = h (ar 9 k) := (zn_inj ha hb0).mp h124
            have hv : h (ar 8 k) = vv ar (cR old) h k := by unfold vv; rw [if_neg hc0, if_pos (by omega), if_neg (by rw [c0]; decide), if_pos e1]
            have hv2 := hb1
            refine lv_iload_n hx hb d_M_joined_127 rfl (lv_at hl 1 rfl) ?_
            refine lv_goto (tgt := 132) hx hb d_M_joined_128 rfl ?_
            refine mm_ast hx hb hK hP hD hS 25 (by decide) rfl (k) rfl (show k < 15 from by omega) (h (ar 8 k)) (rfl) d_M_joined_132 (fun H locs hP hS => ?_)
            refine lv_iinc (k := 2) (v := nI (k + 1)) (lv' := [(2, .int (nI (k + 1))), (4, .int (nI (h (ar 9 k)))), (3, .int (nI (h (ar 8 k)))), (1, .int (zb old)), (0, .ref (am 0))]) hx hb d_M_joined_133 hl rfl (nI_1 _) (by decide) rfl (fun ls hl => ?_)
            refine lv_goto (tgt := 2) hx hb d_M_joined_136 rfl ?_
            rw [zs_up] at hP
            have hl := lv_sub (l' := [(2, .int (nI (k + 1))), (1, .int (zb old)), (0, .ref (am 0))]) hl [0, 3, 4] rfl
            exact ih (k + 1) (by omega) (va_up h k (h (ar 8 k))) H locs ls (vOK_s hk0 hT hN hv) (vB_s hh hv2) hP hS hl
        · skip
          have b1 := mt (zn_ge0 hb0).mpr h93
          have hv : 4294967295 = vv ar (cR old) h k := by unfold vv; rw [if_neg hc0, if_neg (by omega)]
          have hv2 : 4294967295 < 5003 ∨ 4294967295 = 4294967295 := Or.inr rfl
          refine lv_iconst (v := (-1)) hx hb d_M_joined_96 rfl ?_
          refine lv_goto (tgt := 132) hx hb d_M_joined_97 rfl ?_
          refine mm_ast hx hb hK hP hD hS 25 (by decide) rfl (k) rfl (show k < 15 from by omega) (4294967295) (zn_m1.symm) d_M_joined_132 (fun H locs hP hS => ?_)
          refine lv_iinc (k := 2) (v := nI (k + 1)) (lv' := [(2, .int (nI (k + 1))), (4, .int (nI (h (ar 9 k)))), (3, .int (nI (h (ar 8 k)))), (1, .int (zb old)), (0, .ref (am 0))]) hx hb d_M_joined_133 hl rfl (nI_1 _) (by decide) rfl (fun ls hl => ?_)
          refine lv_goto (tgt := 2) hx hb d_M_joined_136 rfl ?_
          rw [zs_up] at hP
          have hl := lv_sub (l' := [(2, .int (nI (k + 1))), (1, .int (zb old)), (0, .ref (am 0))]) hl [0, 3, 4] rfl
          exact ih (k + 1) (by omega) (va_up h k (4294967295)) H locs ls (vOK_s hk0 hT hN hv) (vB_s hh hv2) hP hS hl
    · skip
      have hch := hch (by rw [c0]; decide)
      have hb1 := hh _ hch.1
      have hb2 := hh _ hch.2
      have hc0 : ¬ ar 7 k = 0 := by rw [c0]; decide
      have ha : h (ar 8 k) < 2 ^ 32 := by omega
      have hb0 : h (ar 9 k) < 2 ^ 32 := by omega
      refine lv_iload_n hx hb d_M_joined_2 rfl (lv_at hl 0 rfl) ?_
      refine lv_aload_n hx hb d_M_joined_3 rfl (lv_at hl 2 rfl) ?_
      refine mm_get hx hb hts hown hK hP (index := 122) 28 (by decide) mf_M_122 (v := .int (nI (ar 0 1))) rfl d_M_joined_4 ?_
      refine lv_icmp_ge (tgt := 139) hx hb d_M_joined_7 rfl (fun h7 => absurd h7 (nI_ge hN (by omega))) (fun h7 => ?_)
      refine lv_aload_n hx hb d_M_joined_10 rfl (lv_at hl 2 rfl) ?_
      refine mm_get hx hb hts hown hK hP (index := 28) 6 (by decide) mf_M_28 (v := .ref (am 7)) rfl d_M_joined_11 ?_
      refine lv_iload_n hx hb d_M_joined_14 rfl (lv_at hl 0 rfl) ?_
      refine mm_ald hx hb hK hP 6 (by decide) rfl (k) rfl (show k < 15 from by omega) (ar 7 k) (rfl) d_M_joined_15 ?_
      refine lv_if_ne (tgt := 57) hx hb d_M_joined_16 rfl (fun h16 => ?_) (fun h16 => absurd h16 (by rw [c0]; decide))
      refine lv_aload_n hx hb d_M_joined_57 rfl (lv_at hl 2 rfl) ?_
      refine mm_get hx hb hts hown hK hP (index := 86) 25 (by decide) mf_M_86 (v := .ref (am 26)) rfl d_M_joined_58 ?_
      refine lv_aload_n hx hb d_M_joined_61 rfl (lv_at hl 2 rfl) ?_
      refine mm_get hx hb hts hown hK hP (index := 31) 7 (by decide) mf_M_31 (v := .ref (am 8)) rfl d_M_joined_62 ?_
      refine lv_iload_n hx hb d_M_joined_65 rfl (lv_at hl 0 rfl) ?_
      refine mm_ald hx hb hK hP 7 (by decide) rfl (k) rfl (show k < 15 from by omega) (ar 8 k) (rfl) d_M_joined_66 ?_
      refine mm_ald hx hb hK hP 25 (by decide) rfl (ar 8 k) rfl (show ar 8 k < 15 from by omega) (h (ar 8 k)) (rfl) d_M_joined_67 ?_
      refine lv_istore_n (lv' := [(3, .int (nI (h (ar 8 k)))), (2, .int (nI k)), (1, .int (zb old)), (0, .ref (am 0))]) hx hb d_M_joined_68 rfl hl (by decide) rfl (fun ls hl => ?_)
      refine lv_aload_n hx hb d_M_joined_69 rfl (lv_at hl 3 rfl) ?_
      refine mm_get hx hb hts hown hK hP (index := 86) 25 (by decide) mf_M_86 (v := .ref (am 26)) rfl d_M_joined_70 ?_
      refine lv_aload_n hx hb d_M_joined_73 rfl (lv_at hl 3 rfl) ?_
      refine mm_get hx hb hts hown hK hP (index := 34) 8 (by decide) mf_M_34 (v := .ref (am 9)) rfl d_M_joined_74 ?_
      refine lv_iload_n hx hb d_M_joined_77 rfl (lv_at hl 1 rfl) ?_
      refine mm_ald hx hb hK hP 8 (by decide) rfl (k) rfl (show k < 15 from by omega) (ar 9 k) (rfl) d_M_joined_78 ?_
      refine mm_ald hx hb hK hP 25 (by decide) rfl (ar 9 k) rfl (show ar 9 k < 15 from by omega) (h (ar 9 k)) (rfl) d_M_joined_79 ?_
      refine lv_istore (lv' := [(4, .int (nI (h (ar 9 k)))), (3, .int (nI (h (ar 8 k)))), (2, .int (nI k)), (1, .int (zb old)), (0, .ref (am 0))]) hx hb d_M_joined_80 hl (by decide) rfl (fun ls hl => ?_)
      refine lv_aload_n hx hb d_M_joined_82 rfl (lv_at hl 4 rfl) ?_
      refine mm_get hx hb hts hown hK hP (index := 86) 25 (by decide) mf_M_86 (v := .ref (am 26)) rfl d_M_joined_83 ?_
      refine lv_iload_n hx hb d_M_joined_86 rfl (lv_at hl 2 rfl) ?_
      refine lv_iload_n hx hb d_M_joined_87 rfl (lv_at hl 1 rfl) ?_
      refine lv_if_lt (tgt := 96) hx hb d_M_joined_88 rfl (fun h88 => ?_) (fun h88 => ?_)
      · skip
        have a1 := (zn_lt0 ha).mp h88
        have hv : 4294967295 = vv ar (cR old) h k := by unfold vv; rw [if_neg hc0, if_neg (by omega)]
        have hv2 : 4294967295 < 5003 ∨ 4294967295 = 4294967295 := Or.inr rfl
        refine lv_iconst (v := (-1)) hx hb d_M_joined_96 rfl ?_
        refine lv_goto (tgt := 132) hx hb d_M_joined_97 rfl ?_
        refine mm_ast hx hb hK hP hD hS 25 (by decide) rfl (k) rfl (show k < 15 from by omega) (4294967295) (zn_m1.symm) d_M_joined_132 (fun H locs hP hS => ?_)
        refine lv_iinc (k := 2) (v := nI (k + 1)) (lv' := [(2, .int (nI (k + 1))), (4, .int (nI (h (ar 9 k)))), (3, .int (nI (h (ar 8 k)))), (1, .int (zb old)), (0, .ref (am 0))]) hx hb d_M_joined_133 hl rfl (nI_1 _) (by decide) rfl (fun ls hl => ?_)
        refine lv_goto (tgt := 2) hx hb d_M_joined_136 rfl ?_
        rw [zs_up] at hP
        have hl := lv_sub (l' := [(2, .int (nI (k + 1))), (1, .int (zb old)), (0, .ref (am 0))]) hl [0, 3, 4] rfl
        exact ih (k + 1) (by omega) (va_up h k (4294967295)) H locs ls (vOK_s hk0 hT hN hv) (vB_s hh hv2) hP hS hl
      · skip
        have a1 := mt (zn_lt0 ha).mpr h88
        refine lv_iload hx hb d_M_joined_91 (lv_at hl 0 rfl) ?_
        refine lv_if_ge (tgt := 100) hx hb d_M_joined_93 rfl (fun h93 => ?_) (fun h93 => ?_)
        · skip
          have b1 := (zn_ge0 hb0).mp h93
          refine lv_aload_n hx hb d_M_joined_100 rfl (lv_at hl 4 rfl) ?_
          refine mm_get hx hb hts hown hK hP (index := 28) 6 (by decide) mf_M_28 (v := .ref (am 7)) rfl d_M_joined_101 ?_
          refine lv_iload_n hx hb d_M_joined_104 rfl (lv_at hl 2 rfl) ?_
          refine mm_ald hx hb hK hP 6 (by decide) rfl (k) rfl (show k < 15 from by omega) (ar 7 k) (rfl) d_M_joined_105 ?_
          refine lv_iconst (v := 2) hx hb d_M_joined_106 rfl ?_
          refine lv_icmp_ne (tgt := 121) hx hb d_M_joined_107 rfl (fun h107 => absurd (by rw [c0]; rfl) h107) (fun h107 => ?_)
          refine lv_iload_n hx hb d_M_joined_110 rfl (lv_at hl 1 rfl) ?_
          refine lv_iload hx hb d_M_joined_111 (lv_at hl 0 rfl) ?_
          refine lv_iadd hx hb d_M_joined_113 ?_
          refine zz_as (y := nI ((h (ar 8 k)) + (h (ar 9 k)))) (nI_add (h (ar 8 k)) (h (ar 9 k))) ?_
          refine lv_sipush (v := 5003) hx hb d_M_joined_114 rfl ?_
          refine lv_irem hx hb d_M_joined_117 (by decide) ?_
          refine zz_as (y := nI (((h (ar 8 k)) + (h (ar 9 k))) % 5003)) (pk_rem (d := 5003) (by omega) (by decide) (by decide)) ?_
          have hv : (h (ar 8 k) + h (ar 9 k)) % 5003 = vv ar (cR old) h k := by unfold vv; rw [if_neg hc0, if_pos (by omega), if_pos c0]
          have hv2 : (h (ar 8 k) + h (ar 9 k)) % 5003 < 5003 ∨ (h (ar 8 k) + h (ar 9 k)) % 5003 = 4294967295 := Or.inl (Nat.mod_lt _ (by decide))
          refine lv_goto (tgt := 132) hx hb d_M_joined_118 rfl ?_
          refine mm_ast hx hb hK hP hD hS 25 (by decide) rfl (k) rfl (show k < 15 from by omega) (((h (ar 8 k)) + (h (ar 9 k))) % 5003) (rfl) d_M_joined_132 (fun H locs hP hS => ?_)
          refine lv_iinc (k := 2) (v := nI (k + 1)) (lv' := [(2, .int (nI (k + 1))), (4, .int (nI (h (ar 9 k)))), (3, .int (nI (h (ar 8 k)))), (1, .int (zb old)), (0, .ref (am 0))]) hx hb d_M_joined_133 hl rfl (nI_1 _) (by decide) rfl (fun ls hl => ?_)
          refine lv_goto (tgt := 2) hx hb d_M_joined_136 rfl ?_
          rw [zs_up] at hP
          have hl := lv_sub (l' := [(2, .int (nI (k + 1))), (1, .int (zb old)), (0, .ref (am 0))]) hl [0, 3, 4] rfl
          exact ih (k + 1) (by omega) (va_up h k (((h (ar 8 k)) + (h (ar 9 k))) % 5003)) H locs ls (vOK_s hk0 hT hN hv) (vB_s hh hv2) hP hS hl
        · skip
          have b1 := mt (zn_ge0 hb0).mpr h93
          have hv : 4294967295 = vv ar (cR old) h k := by unfold vv; rw [if_neg hc0, if_neg (by omega)]
          have hv2 : 4294967295 < 5003 ∨ 4294967295 = 4294967295 := Or.inr rfl
          refine lv_iconst (v := (-1)) hx hb d_M_joined_96 rfl ?_
          refine lv_goto (tgt := 132) hx hb d_M_joined_97 rfl ?_
          refine mm_ast hx hb hK hP hD hS 25 (by decide) rfl (k) rfl (show k < 15 from by omega) (4294967295) (zn_m1.symm) d_M_joined_132 (fun H locs hP hS => ?_)
          refine lv_iinc (k := 2) (v := nI (k + 1)) (lv' := [(2, .int (nI (k + 1))), (4, .int (nI (h (ar 9 k)))), (3, .int (nI (h (ar 8 k)))), (1, .int (zb old)), (0, .ref (am 0))]) hx hb d_M_joined_133 hl rfl (nI_1 _) (by decide) rfl (fun ls hl => ?_)
          refine lv_goto (tgt := 2) hx hb d_M_joined_136 rfl ?_
          rw [zs_up] at hP
          have hl := lv_sub (l' := [(2, .int (nI (k + 1))), (1, .int (zb old)), (0, .ref (am 0))]) hl [0, 3, 4] rfl
          exact ih (k + 1) (by omega) (va_up h k (4294967295)) H locs ls (vOK_s hk0 hT hN hv) (vB_s hh hv2) hP hS hl
end MJ

set_option maxHeartbeats 4000000 in
set_option maxRecDepth 100000 in
/-- joined(old) -/
theorem k_joinedM (l : Launch) (D : va_G) (ca : Nat → ClassId) (am : Nat → Nat) (ar : Nat → Nat → Nat) (hI : mI am) (old : Bool) (hT : tT ar) (hN8 : tN ar) (hsz : 0 < ar 0 1) : Met l y_M_joined (Cond.code y_M_joined c_M_joined 5 (some .int) :: zT) ({ frames := 1, cells := 0, slots := 0, locals := 40 }) (va_Pc [.ref (am 0), .int (zb old)] (mw D ca am ar)) (va_Qi (fun r ar1 => ∃ h : Nat → Nat, vOK ar (cR old) h (ar 0 1) ∧ vB h (ar 0 1) ∧ ar1 = va_up ar 26 h ∧ r = nI (h (ar 0 1 - 1))) (mw D ca am) (mA am)) 0 0 (mA am) := by
  refine Met.ofW (cc := c_M_joined) (maxL := 5) (ret := (some .int)) (by decide) rfl ?_
  intro p e s m args below meth c s₁ B hml hv
  obtain ⟨rfl, hK, hP⟩ := hv
  have hx := B.exec
  have hb := B.bytes
  have hr := B.returns
  have hts0 := atoms_spec (ws := Cond.code y_M_joined c_M_joined 5 (some .int) :: zT) B.pre
  have hts := fun w h => hts0 w (List.mem_cons_of_mem _ h)
  have hown : s.vm.findClass R_M = some m.cls := findClass_of_methodNamed B.named
  have hlocks := B.notSynchronized
  have hD := mI_D hI
  have hS : va_S (mA am) s.heap s.heap [] := va_S.rf
  have hAA : ∀ q, mA am q → mA am q := fun _ h => h
  have hl := lv_entry ([.ref (am 0), .int (zb old)]) (n := 5) (Nat.le_of_ble_eq_true rfl)
  rw [lg_entry_eq]
  generalize (lg_sl ([.ref (am 0), .int (zb old)]) ++ List.replicate (5 - (lg_sl ([.ref (am 0), .int (zb old)])).length) Slot.unset).toArray = ls at hl ⊢
  have hl : lv_has ls 5 [(0, .ref (am 0)), (1, .int (zb old))] := hl
  skip
  refine lv_iconst (v := 0) hx hb d_M_joined_0 rfl ?_
  refine lv_istore_n (lv' := [(2, .int 0), (0, .ref (am 0)), (1, .int (zb old))]) hx hb d_M_joined_1 rfl hl (by decide) rfl (fun ls hl => ?_)
  have hP : va_P D zC (zl 28 am (mct ca am (va_up ar 26 (ar 26)))) s.heap := by rw [va_up_row]; exact hP
  refine joined_loop hx hb hml hown hts hK hD old hT hN8 (fun h H locs ls hk hh hP hS hl => ?_) (ar 0 1) 0 (Nat.zero_add _) (ar 26) s.heap [] ls (fun _ q => absurd q (Nat.not_lt_zero _)) (fun _ q => absurd q (Nat.not_lt_zero _)) hP hS (lv_sub hl [0, 2, 1] rfl)
  have hs1 := hT.1
  refine lv_aload_n hx hb d_M_joined_139 rfl (lv_at hl 0 rfl) ?_
  refine mm_get hx hb hts hown hK hP (index := 86) 25 (by decide) mf_M_86 (v := .ref (am 26)) rfl d_M_joined_140 ?_
  refine lv_aload_n hx hb d_M_joined_143 rfl (lv_at hl 0 rfl) ?_
  refine mm_get hx hb hts hown hK hP (index := 122) 28 (by decide) mf_M_122 (v := .int (nI (ar 0 1))) rfl d_M_joined_144 ?_
  refine lv_iconst (v := 1) hx hb d_M_joined_147 rfl ?_
  refine lv_isub hx hb d_M_joined_148 ?_
  refine zz_as (y := nI ((ar 0 1) - 1)) (pk_sub (a := ar 0 1) (b := 1) (by omega)) ?_
  refine mm_ald hx hb hK hP 25 (by decide) rfl ((ar 0 1) - 1) rfl (show (ar 0 1) - 1 < 15 from by omega) (h ((ar 0 1) - 1)) (rfl) d_M_joined_149 ?_
  exact W.iret hx hb hr (fun t ht hW => ⟨⟨_, va_up ar 26 h, rfl, ⟨h, hk, hh, rfl, rfl⟩, va_K.moved hW.alike hK, by rw [ht]; exact hP⟩, hS.F ht⟩) hS.2.2 d_M_joined_150

theorem d_M_accepts_0 : decode c_M_accepts 0 = .ok (.iconst 1, 1) := by decide +kernel
theorem d_M_accepts_1 : decode c_M_accepts 1 = .ok (.istore_n 3, 1) := by decide +kernel
theorem d_M_accepts_2 : decode c_M_accepts 2 = .ok (.iload_n 2, 1) := by decide +kernel
theorem d_M_accepts_3 : decode c_M_accepts 3 = .ok (.ifCond .eq 12, 3) := by decide +kernel
theorem d_M_accepts_6 : decode c_M_accepts 6 = .ok (.aload_n 0, 1) := by decide +kernel
theorem d_M_accepts_7 : decode c_M_accepts 7 = .ok (.getfield 61, 3) := by decide +kernel
theorem d_M_accepts_10 : decode c_M_accepts 10 = .ok (.iload_n 1, 1) := by decide +kernel
theorem d_M_accepts_11 : decode c_M_accepts 11 = .ok (.iaload, 1) := by decide +kernel
theorem d_M_accepts_12 : decode c_M_accepts 12 = .ok (.goto 9, 3) := by decide +kernel
theorem d_M_accepts_15 : decode c_M_accepts 15 = .ok (.aload_n 0, 1) := by decide +kernel
theorem d_M_accepts_16 : decode c_M_accepts 16 = .ok (.getfield 52, 3) := by decide +kernel
theorem d_M_accepts_19 : decode c_M_accepts 19 = .ok (.iload_n 1, 1) := by decide +kernel
theorem d_M_accepts_20 : decode c_M_accepts 20 = .ok (.iaload, 1) := by decide +kernel
theorem d_M_accepts_21 : decode c_M_accepts 21 = .ok (.istore 4, 2) := by decide +kernel
theorem d_M_accepts_23 : decode c_M_accepts 23 = .ok (.iload_n 2, 1) := by decide +kernel
theorem d_M_accepts_24 : decode c_M_accepts 24 = .ok (.ifCond .eq 12, 3) := by decide +kernel
theorem d_M_accepts_27 : decode c_M_accepts 27 = .ok (.aload_n 0, 1) := by decide +kernel
theorem d_M_accepts_28 : decode c_M_accepts 28 = .ok (.getfield 64, 3) := by decide +kernel
theorem d_M_accepts_31 : decode c_M_accepts 31 = .ok (.iload_n 1, 1) := by decide +kernel
theorem d_M_accepts_32 : decode c_M_accepts 32 = .ok (.iaload, 1) := by decide +kernel
theorem d_M_accepts_33 : decode c_M_accepts 33 = .ok (.goto 9, 3) := by decide +kernel
theorem d_M_accepts_36 : decode c_M_accepts 36 = .ok (.aload_n 0, 1) := by decide +kernel
theorem d_M_accepts_37 : decode c_M_accepts 37 = .ok (.getfield 55, 3) := by decide +kernel
theorem d_M_accepts_40 : decode c_M_accepts 40 = .ok (.iload_n 1, 1) := by decide +kernel
theorem d_M_accepts_41 : decode c_M_accepts 41 = .ok (.iaload, 1) := by decide +kernel
theorem d_M_accepts_42 : decode c_M_accepts 42 = .ok (.istore 5, 2) := by decide +kernel
theorem d_M_accepts_44 : decode c_M_accepts 44 = .ok (.iconst 0, 1) := by decide +kernel
theorem d_M_accepts_45 : decode c_M_accepts 45 = .ok (.istore 6, 2) := by decide +kernel
theorem d_M_accepts_47 : decode c_M_accepts 47 = .ok (.iload 6, 2) := by decide +kernel
theorem d_M_accepts_49 : decode c_M_accepts 49 = .ok (.iconst 2, 1) := by decide +kernel
theorem d_M_accepts_50 : decode c_M_accepts 50 = .ok (.if_icmp .ge 95, 3) := by decide +kernel
theorem d_M_accepts_53 : decode c_M_accepts 53 = .ok (.iconst 2, 1) := by decide +kernel
theorem d_M_accepts_54 : decode c_M_accepts 54 = .ok (.iload_n 1, 1) := by decide +kernel
theorem d_M_accepts_55 : decode c_M_accepts 55 = .ok (.imul, 1) := by decide +kernel
theorem d_M_accepts_56 : decode c_M_accepts 56 = .ok (.iload 6, 2) := by decide +kernel
theorem d_M_accepts_58 : decode c_M_accepts 58 = .ok (.iadd, 1) := by decide +kernel
theorem d_M_accepts_59 : decode c_M_accepts 59 = .ok (.istore 7, 2) := by decide +kernel
theorem d_M_accepts_61 : decode c_M_accepts 61 = .ok (.iload_n 2, 1) := by decide +kernel
theorem d_M_accepts_62 : decode c_M_accepts 62 = .ok (.ifCond .eq 13, 3) := by decide +kernel
theorem d_M_accepts_65 : decode c_M_accepts 65 = .ok (.aload_n 0, 1) := by decide +kernel
theorem d_M_accepts_66 : decode c_M_accepts 66 = .ok (.getfield 58, 3) := by decide +kernel
theorem d_M_accepts_69 : decode c_M_accepts 69 = .ok (.iload 7, 2) := by decide +kernel
theorem d_M_accepts_71 : decode c_M_accepts 71 = .ok (.iaload, 1) := by decide +kernel
theorem d_M_accepts_72 : decode c_M_accepts 72 = .ok (.goto 10, 3) := by decide +kernel
theorem d_M_accepts_75 : decode c_M_accepts 75 = .ok (.aload_n 0, 1) := by decide +kernel
theorem d_M_accepts_76 : decode c_M_accepts 76 = .ok (.getfield 49, 3) := by decide +kernel
theorem d_M_accepts_79 : decode c_M_accepts 79 = .ok (.iload 7, 2) := by decide +kernel
theorem d_M_accepts_81 : decode c_M_accepts 81 = .ok (.iaload, 1) := by decide +kernel
theorem d_M_accepts_82 : decode c_M_accepts 82 = .ok (.istore 8, 2) := by decide +kernel
theorem d_M_accepts_84 : decode c_M_accepts 84 = .ok (.aload_n 0, 1) := by decide +kernel
theorem d_M_accepts_85 : decode c_M_accepts 85 = .ok (.iload_n 1, 1) := by decide +kernel
theorem d_M_accepts_86 : decode c_M_accepts 86 = .ok (.iload 6, 2) := by decide +kernel
theorem d_M_accepts_88 : decode c_M_accepts 88 = .ok (.invokevirtual 138, 3) := by decide +kernel
theorem d_M_accepts_91 : decode c_M_accepts 91 = .ok (.ifCond .eq 48, 3) := by decide +kernel
theorem d_M_accepts_94 : decode c_M_accepts 94 = .ok (.iload_n 3, 1) := by decide +kernel
theorem d_M_accepts_95 : decode c_M_accepts 95 = .ok (.ifCond .eq 42, 3) := by decide +kernel
theorem d_M_accepts_98 : decode c_M_accepts 98 = .ok (.aload_n 0, 1) := by decide +kernel
theorem d_M_accepts_99 : decode c_M_accepts 99 = .ok (.getfield 40, 3) := by decide +kernel
theorem d_M_accepts_102 : decode c_M_accepts 102 = .ok (.iload 7, 2) := by decide +kernel
theorem d_M_accepts_104 : decode c_M_accepts 104 = .ok (.iaload, 1) := by decide +kernel
theorem d_M_accepts_105 : decode c_M_accepts 105 = .ok (.iload 5, 2) := by decide +kernel
theorem d_M_accepts_107 : decode c_M_accepts 107 = .ok (.invokestatic 96, 3) := by decide +kernel
theorem d_M_accepts_110 : decode c_M_accepts 110 = .ok (.iload 8, 2) := by decide +kernel
theorem d_M_accepts_112 : decode c_M_accepts 112 = .ok (.aload_n 0, 1) := by decide +kernel
theorem d_M_accepts_113 : decode c_M_accepts 113 = .ok (.getfield 43, 3) := by decide +kernel
theorem d_M_accepts_116 : decode c_M_accepts 116 = .ok (.iload 7, 2) := by decide +kernel
theorem d_M_accepts_118 : decode c_M_accepts 118 = .ok (.iaload, 1) := by decide +kernel
theorem d_M_accepts_119 : decode c_M_accepts 119 = .ok (.iload 4, 2) := by decide +kernel
theorem d_M_accepts_121 : decode c_M_accepts 121 = .ok (.invokestatic 96, 3) := by decide +kernel
theorem d_M_accepts_124 : decode c_M_accepts 124 = .ok (.sipush 10007, 3) := by decide +kernel
theorem d_M_accepts_127 : decode c_M_accepts 127 = .ok (.invokestatic 92, 3) := by decide +kernel
theorem d_M_accepts_130 : decode c_M_accepts 130 = .ok (.if_icmp .ne 7, 3) := by decide +kernel
theorem d_M_accepts_133 : decode c_M_accepts 133 = .ok (.iconst 1, 1) := by decide +kernel
theorem d_M_accepts_134 : decode c_M_accepts 134 = .ok (.goto 4, 3) := by decide +kernel
theorem d_M_accepts_137 : decode c_M_accepts 137 = .ok (.iconst 0, 1) := by decide +kernel
theorem d_M_accepts_138 : decode c_M_accepts 138 = .ok (.istore_n 3, 1) := by decide +kernel
theorem d_M_accepts_139 : decode c_M_accepts 139 = .ok (.iinc 6 1, 3) := by decide +kernel
theorem d_M_accepts_142 : decode c_M_accepts 142 = .ok (.goto (-95), 3) := by decide +kernel
theorem d_M_accepts_145 : decode c_M_accepts 145 = .ok (.iload_n 3, 1) := by decide +kernel
theorem d_M_accepts_146 : decode c_M_accepts 146 = .ok (.ireturn, 1) := by decide +kernel

set_option maxHeartbeats 4000000 in
set_option maxRecDepth 100000 in
/-- accepts(n, old) -/
theorem k_acceptsM (l : Launch) (D : va_G) (ca : Nat → ClassId) (am : Nat → Nat) (ar : Nat → Nat → Nat) (n : Nat) (old : Bool) (hn : n < ar 0 2) (hl2 : ar 0 2 ≤ 8) (hN8 : tN ar) (hbs : ∀ i, i < 16 → ar 11 i < 10007) (his : ∀ i, i < 16 → ar 12 i < 10007) : Met l y_M_accepts (Cond.code y_M_accepts c_M_accepts 9 (some .boolean) :: zT) ({ frames := 3, cells := 0, slots := 0, locals := 120 }) (va_Pc [.ref (am 0), .int (nI n), .int (zb old)] (mw D ca am ar)) (QcRead (zb (acB ar old n))) 0 0 (fun _ => False) := by
  refine Met.ofW (cc := c_M_accepts) (maxL := 9) (ret := (some .boolean)) (by decide) rfl ?_
  intro p e s m args below meth c s₁ B hml hv
  obtain ⟨rfl, hK, hP⟩ := hv
  have hx := B.exec
  have hb := B.bytes
  have hr := B.returns
  have hts0 := atoms_spec (ws := Cond.code y_M_accepts c_M_accepts 9 (some .boolean) :: zT) B.pre
  have hts := fun w h => hts0 w (List.mem_cons_of_mem _ h)
  have hown : s.vm.findClass R_M = some m.cls := findClass_of_methodNamed B.named
  have hlocks := B.notSynchronized
  have hl := lv_entry ([.ref (am 0), .int (nI n), .int (zb old)]) (n := 9) (Nat.le_of_ble_eq_true rfl)
  rw [lg_entry_eq]
  generalize (lg_sl ([.ref (am 0), .int (nI n), .int (zb old)]) ++ List.replicate (9 - (lg_sl ([.ref (am 0), .int (nI n), .int (zb old)])).length) Slot.unset).toArray = ls at hl ⊢
  have hl : lv_has ls 9 [(0, .ref (am 0)), (1, .int (nI n)), (2, .int (zb old))] := hl
  cases old with
  | false =>
    have hb8 := hN8.2 n (by omega)
    refine lv_iconst (v := 1) hx hb d_M_accepts_0 rfl ?_
    refine lv_istore_n (lv' := [(3, .int 1), (0, .ref (am 0)), (1, .int (nI n)), (2, .int (zb false))]) hx hb d_M_accepts_1 rfl hl (by decide) rfl (fun ls hl => ?_)
    refine lv_iload_n hx hb d_M_accepts_2 rfl (lv_at hl 3 rfl) ?_
    refine lv_if_eq (tgt := 15) hx hb d_M_accepts_3 rfl (fun h3 => ?_) (fun h3 => absurd (rfl) h3)
    refine lv_aload_n hx hb d_M_accepts_15 rfl (lv_at hl 1 rfl) ?_
    refine mm_get hx hb hts hown hK hP (index := 52) 14 (by decide) mf_M_52 (v := .ref (am 15)) rfl d_M_accepts_16 ?_
    refine lv_iload_n hx hb d_M_accepts_19 rfl (lv_at hl 2 rfl) ?_
    refine mm_ald hx hb hK hP 14 (by decide) rfl (n) rfl (show n < 8 from by omega) (ar 15 n) (rfl) d_M_accepts_20 ?_
    refine lv_istore (lv' := [(4, .int (nI (ar 15 n))), (3, .int 1), (0, .ref (am 0)), (1, .int (nI n)), (2, .int (zb false))]) hx hb d_M_accepts_21 hl (by decide) rfl (fun ls hl => ?_)
    refine lv_iload_n hx hb d_M_accepts_23 rfl (lv_at hl 4 rfl) ?_
    refine lv_if_eq (tgt := 36) hx hb d_M_accepts_24 rfl (fun h24 => ?_) (fun h24 => absurd (rfl) h24)
    refine lv_aload_n hx hb d_M_accepts_36 rfl (lv_at hl 2 rfl) ?_
    refine mm_get hx hb hts hown hK hP (index := 55) 15 (by decide) mf_M_55 (v := .ref (am 16)) rfl d_M_accepts_37 ?_
    refine lv_iload_n hx hb d_M_accepts_40 rfl (lv_at hl 3 rfl) ?_
    refine mm_ald hx hb hK hP 15 (by decide) rfl (n) rfl (show n < 8 from by omega) (ar 16 n) (rfl) d_M_accepts_41 ?_
    refine lv_istore (lv' := [(5, .int (nI (ar 16 n))), (4, .int (nI (ar 15 n))), (3, .int 1), (0, .ref (am 0)), (1, .int (nI n)), (2, .int (zb false))]) hx hb d_M_accepts_42 hl (by decide) rfl (fun ls hl => ?_)
    refine lv_iconst (v := 0) hx hb d_M_accepts_44 rfl ?_
    refine lv_istore (lv' := [(6, .int 0), (5, .int (nI (ar 16 n))), (4, .int (nI (ar 15 n))), (3, .int 1), (0, .ref (am 0)), (1, .int (nI n)), (2, .int (zb false))]) hx hb d_M_accepts_45 hl (by decide) rfl (fun ls hl => ?_)
    have hl : lv_has ls 9 [(6, .int 0), (5, .int (nI (ar 16 n))), (4, .int (nI (ar 15 n))), (3, .int 1), (0, .ref (am 0)), (1, .int (nI n)), (2, .int (zb false))] := hl
    refine lv_iload hx hb d_M_accepts_47 (lv_at hl 0 rfl) ?_
    refine lv_iconst (v := 2) hx hb d_M_accepts_49 rfl ?_
    refine lv_icmp_ge (tgt := 145) hx hb d_M_accepts_50 rfl (fun h50 => absurd h50 (by decide)) (fun h50 => ?_)
    refine lv_iconst (v := 2) hx hb d_M_accepts_53 rfl ?_
    refine lv_iload_n hx hb d_M_accepts_54 rfl (lv_at hl 5 rfl) ?_
    refine lv_imul hx hb d_M_accepts_55 ?_
    refine zz_as (y := nI (2 * n)) (pk_mul 2 n) ?_
    refine lv_iload hx hb d_M_accepts_56 (lv_at hl 0 rfl) ?_
    refine lv_iadd hx hb d_M_accepts_58 ?_
    refine zz_as (y := nI ((2 * n) + 0)) (nI_add (2 * n) 0) ?_
    refine lv_istore (lv' := [(7, .int (nI ((2 * n) + 0))), (6, .int 0), (5, .int (nI (ar 16 n))), (4, .int (nI (ar 15 n))), (3, .int 1), (0, .ref (am 0)), (1, .int (nI n)), (2, .int (zb false))]) hx hb d_M_accepts_59 hl (by decide) rfl (fun ls hl => ?_)
    refine lv_iload_n hx hb d_M_accepts_61 rfl (lv_at hl 7 rfl) ?_
    refine lv_if_eq (tgt := 75) hx hb d_M_accepts_62 rfl (fun h62 => ?_) (fun h62 => absurd (rfl) h62)
    refine lv_aload_n hx hb d_M_accepts_75 rfl (lv_at hl 5 rfl) ?_
    refine mm_get hx hb hts hown hK hP (index := 49) 13 (by decide) mf_M_49 (v := .ref (am 14)) rfl d_M_accepts_76 ?_
    refine lv_iload hx hb d_M_accepts_79 (lv_at hl 0 rfl) ?_
    refine mm_ald hx hb hK hP 13 (by decide) rfl ((2 * n) + 0) rfl (show (2 * n) + 0 < 16 from by omega) (ar 14 ((2 * n) + 0)) (rfl) d_M_accepts_81 ?_
    refine lv_istore (lv' := [(8, .int (nI (ar 14 ((2 * n) + 0)))), (7, .int (nI ((2 * n) + 0))), (6, .int 0), (5, .int (nI (ar 16 n))), (4, .int (nI (ar 15 n))), (3, .int 1), (0, .ref (am 0)), (1, .int (nI n)), (2, .int (zb false))]) hx hb d_M_accepts_82 hl (by decide) rfl (fun ls hl => ?_)
    refine lv_aload_n hx hb d_M_accepts_84 rfl (lv_at hl 6 rfl) ?_
    refine lv_iload_n hx hb d_M_accepts_85 rfl (lv_at hl 7 rfl) ?_
    refine lv_iload hx hb d_M_accepts_86 (lv_at hl 2 rfl) ?_
    refine zz_cV (index := 138) (n := 2) (As := [.int (nI n), .int 0]) (rest := []) ⟨hx, hb, hml, hown, hts⟩ (k_isPairM l D ca am (ar) n 0 (by omega) (by decide) hl2 hbs) mk_M_138 mo_M_isPair me_M_M_isPair_M mi_M mc_M_isPair (by decide +kernel) ⟨rfl, rfl⟩ ⟨by decide, by decide⟩ (mm_pre hK hP) rfl hl.1 rfl (Nat.le_of_ble_eq_true rfl) d_M_accepts_88 ⟨Nat.zero_le _, Nat.zero_le _⟩ ?_
    refine lv_if_eq (tgt := 139) hx hb d_M_accepts_91 rfl (fun h91 => ?_) (fun h91 => ?_)
    · skip
      have a0 : acP ar false n 0 = true := acP_n (pairB_f hn (zb_eq (b := pairB ar n 0) h91))
      refine lv_iinc (k := 2) (v := nI (0 + 1)) (lv' := [(6, .int (nI (0 + 1))), (8, .int (nI (ar 14 ((2 * n) + 0)))), (7, .int (nI ((2 * n) + 0))), (5, .int (nI (ar 16 n))), (4, .int (nI (ar 15 n))), (3, .int 1), (0, .ref (am 0)), (1, .int (nI n)), (2, .int (zb false))]) hx hb d_M_accepts_139 hl rfl (nI_1 _) (by decide) rfl (fun ls hl => ?_)
      refine lv_goto (tgt := 47) hx hb d_M_accepts_142 rfl ?_
      have hl : lv_has ls 9 [(6, .int 1), (8, .int (nI (ar 14 ((2 * n) + 0)))), (7, .int (nI ((2 * n) + 0))), (5, .int (nI (ar 16 n))), (4, .int (nI (ar 15 n))), (3, .int 1), (0, .ref (am 0)), (1, .int (nI n)), (2, .int (zb false))] := hl
      refine lv_iload hx hb d_M_accepts_47 (lv_at hl 0 rfl) ?_
      refine lv_iconst (v := 2) hx hb d_M_accepts_49 rfl ?_
      refine lv_icmp_ge (tgt := 145) hx hb d_M_accepts_50 rfl (fun h50 => absurd h50 (by decide)) (fun h50 => ?_)
      refine lv_iconst (v := 2) hx hb d_M_accepts_53 rfl ?_
      refine lv_iload_n hx hb d_M_accepts_54 rfl (lv_at hl 7 rfl) ?_
      refine lv_imul hx hb d_M_accepts_55 ?_
      refine zz_as (y := nI (2 * n)) (pk_mul 2 n) ?_
      refine lv_iload hx hb d_M_accepts_56 (lv_at hl 0 rfl) ?_
      refine lv_iadd hx hb d_M_accepts_58 ?_
      refine zz_as (y := nI ((2 * n) + 1)) (nI_add (2 * n) 1) ?_
      refine lv_istore (lv' := [(7, .int (nI ((2 * n) + 1))), (6, .int 1), (8, .int (nI (ar 14 ((2 * n) + 0)))), (5, .int (nI (ar 16 n))), (4, .int (nI (ar 15 n))), (3, .int 1), (0, .ref (am 0)), (1, .int (nI n)), (2, .int (zb false))]) hx hb d_M_accepts_59 hl (by decide) rfl (fun ls hl => ?_)
      refine lv_iload_n hx hb d_M_accepts_61 rfl (lv_at hl 8 rfl) ?_
      refine lv_if_eq (tgt := 75) hx hb d_M_accepts_62 rfl (fun h62 => ?_) (fun h62 => absurd (rfl) h62)
      refine lv_aload_n hx hb d_M_accepts_75 rfl (lv_at hl 6 rfl) ?_
      refine mm_get hx hb hts hown hK hP (index := 49) 13 (by decide) mf_M_49 (v := .ref (am 14)) rfl d_M_accepts_76 ?_
      refine lv_iload hx hb d_M_accepts_79 (lv_at hl 0 rfl) ?_
      refine mm_ald hx hb hK hP 13 (by decide) rfl ((2 * n) + 1) rfl (show (2 * n) + 1 < 16 from by omega) (ar 14 ((2 * n) + 1)) (rfl) d_M_accepts_81 ?_
      refine lv_istore (lv' := [(8, .int (nI (ar 14 ((2 * n) + 1)))), (7, .int (nI ((2 * n) + 1))), (6, .int 1), (5, .int (nI (ar 16 n))), (4, .int (nI (ar 15 n))), (3, .int 1), (0, .ref (am 0)), (1, .int (nI n)), (2, .int (zb false))]) hx hb d_M_accepts_82 hl (by decide) rfl (fun ls hl => ?_)
      refine lv_aload_n hx hb d_M_accepts_84 rfl (lv_at hl 6 rfl) ?_
      refine lv_iload_n hx hb d_M_accepts_85 rfl (lv_at hl 7 rfl) ?_
      refine lv_iload hx hb d_M_accepts_86 (lv_at hl 2 rfl) ?_
      refine zz_cV (index := 138) (n := 2) (As := [.int (nI n), .int 1]) (rest := []) ⟨hx, hb, hml, hown, hts⟩ (k_isPairM l D ca am (ar) n 1 (by omega) (by decide) hl2 hbs) mk_M_138 mo_M_isPair me_M_M_isPair_M mi_M mc_M_isPair (by decide +kernel) ⟨rfl, rfl⟩ ⟨by decide, by decide⟩ (mm_pre hK hP) rfl hl.1 rfl (Nat.le_of_ble_eq_true rfl) d_M_accepts_88 ⟨Nat.zero_le _, Nat.zero_le _⟩ ?_
      refine lv_if_eq (tgt := 139) hx hb d_M_accepts_91 rfl (fun h91 => ?_) (fun h91 => ?_)
      · skip
        have a1 : acP ar false n 1 = true := acP_n (pairB_f hn (zb_eq (b := pairB ar n 1) h91))
        refine lv_iinc (k := 2) (v := nI (1 + 1)) (lv' := [(6, .int (nI (1 + 1))), (8, .int (nI (ar 14 ((2 * n) + 1)))), (7, .int (nI ((2 * n) + 1))), (5, .int (nI (ar 16 n))), (4, .int (nI (ar 15 n))), (3, .int 1), (0, .ref (am 0)), (1, .int (nI n)), (2, .int (zb false))]) hx hb d_M_accepts_139 hl rfl (nI_1 _) (by decide) rfl (fun ls hl => ?_)
        refine lv_goto (tgt := 47) hx hb d_M_accepts_142 rfl ?_
        have hl : lv_has ls 9 [(6, .int 2), (8, .int (nI (ar 14 ((2 * n) + 1)))), (7, .int (nI ((2 * n) + 1))), (5, .int (nI (ar 16 n))), (4, .int (nI (ar 15 n))), (3, .int 1), (0, .ref (am 0)), (1, .int (nI n)), (2, .int (zb false))] := hl
        refine lv_iload hx hb d_M_accepts_47 (lv_at hl 0 rfl) ?_
        refine lv_iconst (v := 2) hx hb d_M_accepts_49 rfl ?_
        refine lv_icmp_ge (tgt := 145) hx hb d_M_accepts_50 rfl (fun h50 => ?_) (fun h50 => absurd (by decide) h50)
        refine lv_iload_n hx hb d_M_accepts_145 rfl (lv_at hl 5 rfl) ?_
        have hq : acB ar false n = true := by unfold acB; rw [a0, a1]; rfl
        refine zz_as (y := zb (acB ar false n)) (by rw [hq]; rfl) ?_
        exact W.zret hx hb hr (zb_nar _) (fun t ht hW => ⟨rfl, ht⟩) (fun q h => absurd h List.not_mem_nil) d_M_accepts_146
      · skip
        have hp : 0 < ar 11 (2 * n + 1) := (pairB_t (zb_ne (b := pairB ar n 1) h91)).2
        refine lv_iload_n hx hb d_M_accepts_94 rfl (lv_at hl 5 rfl) ?_
        refine lv_if_eq (tgt := 137) hx hb d_M_accepts_95 rfl (fun h95 => absurd h95 (by decide)) (fun h95 => ?_)
        refine lv_aload_n hx hb d_M_accepts_98 rfl (lv_at hl 6 rfl) ?_
        refine mm_get hx hb hts hown hK hP (index := 40) 10 (by decide) mf_M_40 (v := .ref (am 11)) rfl d_M_accepts_99 ?_
        refine lv_iload hx hb d_M_accepts_102 (lv_at hl 1 rfl) ?_
        refine mm_ald hx hb hK hP 10 (by decide) rfl ((2 * n) + 1) rfl (show (2 * n) + 1 < 16 from by omega) (ar 11 ((2 * n) + 1)) (rfl) d_M_accepts_104 ?_
        refine lv_iload hx hb d_M_accepts_105 (lv_at hl 3 rfl) ?_
        refine zz_cS (index := 96) (n := 2) (As := [.int (nI (ar 11 (2 * n + 1))), .int (nI (ar 16 n))]) (rest := []) ⟨hx, hb, hml, hown, hts⟩ (k_raised l (ar 11 (2 * n + 1)) (ar 16 n) (hbs _ (by omega)) (by omega)) mk_M_96 ms_M_raised mi_M mc_M_raised (by decide +kernel) ⟨rfl, rfl⟩ ⟨by decide, by decide⟩ preEq rfl hl.1 rfl (Nat.le_of_ble_eq_true rfl) d_M_accepts_107 ⟨Nat.zero_le _, Nat.zero_le _⟩ ?_
        refine lv_iload hx hb d_M_accepts_110 (lv_at hl 0 rfl) ?_
        refine lv_aload_n hx hb d_M_accepts_112 rfl (lv_at hl 6 rfl) ?_
        refine mm_get hx hb hts hown hK hP (index := 43) 11 (by decide) mf_M_43 (v := .ref (am 12)) rfl d_M_accepts_113 ?_
        refine lv_iload hx hb d_M_accepts_116 (lv_at hl 1 rfl) ?_
        refine mm_ald hx hb hK hP 11 (by decide) rfl ((2 * n) + 1) rfl (show (2 * n) + 1 < 16 from by omega) (ar 12 ((2 * n) + 1)) (rfl) d_M_accepts_118 ?_
        refine lv_iload hx hb d_M_accepts_119 (lv_at hl 4 rfl) ?_
        refine zz_cS (index := 96) (n := 2) (As := [.int (nI (ar 12 (2 * n + 1))), .int (nI (ar 15 n))]) (rest := [.int (nI (ar 14 ((2 * n) + 1))), .int (nI (ar 11 (2 * n + 1) ^ ar 16 n % 10007))]) ⟨hx, hb, hml, hown, hts⟩ (k_raised l (ar 12 (2 * n + 1)) (ar 15 n) (his _ (by omega)) (by omega)) mk_M_96 ms_M_raised mi_M mc_M_raised (by decide +kernel) ⟨rfl, rfl⟩ ⟨by decide, by decide⟩ preEq rfl hl.1 rfl (Nat.le_of_ble_eq_true rfl) d_M_accepts_121 ⟨Nat.zero_le _, Nat.zero_le _⟩ ?_
        refine lv_sipush (v := 10007) hx hb d_M_accepts_124 rfl ?_
        refine zz_cS (index := 92) (n := 3) (As := [.int (nI (ar 14 (2 * n + 1))), .int (nI (ar 12 (2 * n + 1) ^ ar 15 n % 10007)), .int 10007]) (rest := [.int (nI (ar 11 (2 * n + 1) ^ ar 16 n % 10007))]) ⟨hx, hb, hml, hown, hts⟩ (k_times l (ar 14 (2 * n + 1)) (ar 12 (2 * n + 1) ^ ar 15 n % 10007) 10007 (by have := hN8.1 (2 * n + 1) (by omega); omega) (Nat.lt_trans (Nat.mod_lt _ (by decide)) (by decide)) (by decide) (by decide)) mk_M_92 ms_M_times mi_M mc_M_times (by decide +kernel) ⟨rfl, rfl⟩ ⟨by decide, by decide⟩ preEq rfl hl.1 rfl (Nat.le_of_ble_eq_true rfl) d_M_accepts_127 ⟨Nat.zero_le _, Nat.zero_le _⟩ ?_
        refine lv_icmp_ne (tgt := 137) hx hb d_M_accepts_130 rfl (fun h130 => ?_) (fun h130 => ?_)
        · skip
          have a1 : acP ar false n 1 = false := acP_f hp (fun q => h130 (congrArg nI q))
          refine lv_iconst (v := 0) hx hb d_M_accepts_137 rfl ?_
          refine lv_istore_n (lv' := [(3, .int 0), (8, .int (nI (ar 14 ((2 * n) + 1)))), (7, .int (nI ((2 * n) + 1))), (6, .int 1), (5, .int (nI (ar 16 n))), (4, .int (nI (ar 15 n))), (0, .ref (am 0)), (1, .int (nI n)), (2, .int (zb false))]) hx hb d_M_accepts_138 rfl hl (by decide) rfl (fun ls hl => ?_)
          refine lv_iinc (k := 3) (v := nI (1 + 1)) (lv' := [(6, .int (nI (1 + 1))), (3, .int 0), (8, .int (nI (ar 14 ((2 * n) + 1)))), (7, .int (nI ((2 * n) + 1))), (5, .int (nI (ar 16 n))), (4, .int (nI (ar 15 n))), (0, .ref (am 0)), (1, .int (nI n)), (2, .int (zb false))]) hx hb d_M_accepts_139 hl rfl (nI_1 _) (by decide) rfl (fun ls hl => ?_)
          refine lv_goto (tgt := 47) hx hb d_M_accepts_142 rfl ?_
          have hl : lv_has ls 9 [(6, .int 2), (3, .int 0), (8, .int (nI (ar 14 ((2 * n) + 1)))), (7, .int (nI ((2 * n) + 1))), (5, .int (nI (ar 16 n))), (4, .int (nI (ar 15 n))), (0, .ref (am 0)), (1, .int (nI n)), (2, .int (zb false))] := hl
          refine lv_iload hx hb d_M_accepts_47 (lv_at hl 0 rfl) ?_
          refine lv_iconst (v := 2) hx hb d_M_accepts_49 rfl ?_
          refine lv_icmp_ge (tgt := 145) hx hb d_M_accepts_50 rfl (fun h50 => ?_) (fun h50 => absurd (by decide) h50)
          refine lv_iload_n hx hb d_M_accepts_145 rfl (lv_at hl 1 rfl) ?_
          have hq : acB ar false n = false := by unfold acB; first | (rw [a0]; rfl) | (rw [a1, Bool.and_false])
          refine zz_as (y := zb (acB ar false n)) (by rw [hq]; rfl) ?_
          exact W.zret hx hb hr (zb_nar _) (fun t ht hW => ⟨rfl, ht⟩) (fun q h => absurd h List.not_mem_nil) d_M_accepts_146
        · skip
          have a1 : acP ar false n 1 = true := acP_e (zn_eqm.mp h130)
          refine lv_iconst (v := 1) hx hb d_M_accepts_133 rfl ?_
          refine lv_goto (tgt := 138) hx hb d_M_accepts_134 rfl ?_
          refine lv_istore_n (lv' := [(3, .int 1), (8, .int (nI (ar 14 ((2 * n) + 1)))), (7, .int (nI ((2 * n) + 1))), (6, .int 1), (5, .int (nI (ar 16 n))), (4, .int (nI (ar 15 n))), (0, .ref (am 0)), (1, .int (nI n)), (2, .int (zb false))]) hx hb d_M_accepts_138 rfl hl (by decide) rfl (fun ls hl => ?_)
          refine lv_iinc (k := 3) (v := nI (1 + 1)) (lv' := [(6, .int (nI (1 + 1))), (3, .int 1), (8, .int (nI (ar 14 ((2 * n) + 1)))), (7, .int (nI ((2 * n) + 1))), (5, .int (nI (ar 16 n))), (4, .int (nI (ar 15 n))), (0, .ref (am 0)), (1, .int (nI n)), (2, .int (zb false))]) hx hb d_M_accepts_139 hl rfl (nI_1 _) (by decide) rfl (fun ls hl => ?_)
          refine lv_goto (tgt := 47) hx hb d_M_accepts_142 rfl ?_
          have hl : lv_has ls 9 [(6, .int 2), (3, .int 1), (8, .int (nI (ar 14 ((2 * n) + 1)))), (7, .int (nI ((2 * n) + 1))), (5, .int (nI (ar 16 n))), (4, .int (nI (ar 15 n))), (0, .ref (am 0)), (1, .int (nI n)), (2, .int (zb false))] := hl
          refine lv_iload hx hb d_M_accepts_47 (lv_at hl 0 rfl) ?_
          refine lv_iconst (v := 2) hx hb d_M_accepts_49 rfl ?_
          refine lv_icmp_ge (tgt := 145) hx hb d_M_accepts_50 rfl (fun h50 => ?_) (fun h50 => absurd (by decide) h50)
          refine lv_iload_n hx hb d_M_accepts_145 rfl (lv_at hl 1 rfl) ?_
          have hq : acB ar false n = true := by unfold acB; rw [a0, a1]; rfl
          refine zz_as (y := zb (acB ar false n)) (by rw [hq]; rfl) ?_
          exact W.zret hx hb hr (zb_nar _) (fun t ht hW => ⟨rfl, ht⟩) (fun q h => absurd h List.not_mem_nil) d_M_accepts_146
    · skip
      have hp : 0 < ar 11 (2 * n + 0) := (pairB_t (zb_ne (b := pairB ar n 0) h91)).2
      refine lv_iload_n hx hb d_M_accepts_94 rfl (lv_at hl 5 rfl) ?_
      refine lv_if_eq (tgt := 137) hx hb d_M_accepts_95 rfl (fun h95 => absurd h95 (by decide)) (fun h95 => ?_)
      refine lv_aload_n hx hb d_M_accepts_98 rfl (lv_at hl 6 rfl) ?_
      refine mm_get hx hb hts hown hK hP (index := 40) 10 (by decide) mf_M_40 (v := .ref (am 11)) rfl d_M_accepts_99 ?_
      refine lv_iload hx hb d_M_accepts_102 (lv_at hl 1 rfl) ?_
      refine mm_ald hx hb hK hP 10 (by decide) rfl ((2 * n) + 0) rfl (show (2 * n) + 0 < 16 from by omega) (ar 11 ((2 * n) + 0)) (rfl) d_M_accepts_104 ?_
      refine lv_iload hx hb d_M_accepts_105 (lv_at hl 3 rfl) ?_
      refine zz_cS (index := 96) (n := 2) (As := [.int (nI (ar 11 (2 * n + 0))), .int (nI (ar 16 n))]) (rest := []) ⟨hx, hb, hml, hown, hts⟩ (k_raised l (ar 11 (2 * n + 0)) (ar 16 n) (hbs _ (by omega)) (by omega)) mk_M_96 ms_M_raised mi_M mc_M_raised (by decide +kernel) ⟨rfl, rfl⟩ ⟨by decide, by decide⟩ preEq rfl hl.1 rfl (Nat.le_of_ble_eq_true rfl) d_M_accepts_107 ⟨Nat.zero_le _, Nat.zero_le _⟩ ?_
      refine lv_iload hx hb d_M_accepts_110 (lv_at hl 0 rfl) ?_
      refine lv_aload_n hx hb d_M_accepts_112 rfl (lv_at hl 6 rfl) ?_
      refine mm_get hx hb hts hown hK hP (index := 43) 11 (by decide) mf_M_43 (v := .ref (am 12)) rfl d_M_accepts_113 ?_
      refine lv_iload hx hb d_M_accepts_116 (lv_at hl 1 rfl) ?_
      refine mm_ald hx hb hK hP 11 (by decide) rfl ((2 * n) + 0) rfl (show (2 * n) + 0 < 16 from by omega) (ar 12 ((2 * n) + 0)) (rfl) d_M_accepts_118 ?_
      refine lv_iload hx hb d_M_accepts_119 (lv_at hl 4 rfl) ?_
      refine zz_cS (index := 96) (n := 2) (As := [.int (nI (ar 12 (2 * n + 0))), .int (nI (ar 15 n))]) (rest := [.int (nI (ar 14 ((2 * n) + 0))), .int (nI (ar 11 (2 * n + 0) ^ ar 16 n % 10007))]) ⟨hx, hb, hml, hown, hts⟩ (k_raised l (ar 12 (2 * n + 0)) (ar 15 n) (his _ (by omega)) (by omega)) mk_M_96 ms_M_raised mi_M mc_M_raised (by decide +kernel) ⟨rfl, rfl⟩ ⟨by decide, by decide⟩ preEq rfl hl.1 rfl (Nat.le_of_ble_eq_true rfl) d_M_accepts_121 ⟨Nat.zero_le _, Nat.zero_le _⟩ ?_
      refine lv_sipush (v := 10007) hx hb d_M_accepts_124 rfl ?_
      refine zz_cS (index := 92) (n := 3) (As := [.int (nI (ar 14 (2 * n + 0))), .int (nI (ar 12 (2 * n + 0) ^ ar 15 n % 10007)), .int 10007]) (rest := [.int (nI (ar 11 (2 * n + 0) ^ ar 16 n % 10007))]) ⟨hx, hb, hml, hown, hts⟩ (k_times l (ar 14 (2 * n + 0)) (ar 12 (2 * n + 0) ^ ar 15 n % 10007) 10007 (by have := hN8.1 (2 * n + 0) (by omega); omega) (Nat.lt_trans (Nat.mod_lt _ (by decide)) (by decide)) (by decide) (by decide)) mk_M_92 ms_M_times mi_M mc_M_times (by decide +kernel) ⟨rfl, rfl⟩ ⟨by decide, by decide⟩ preEq rfl hl.1 rfl (Nat.le_of_ble_eq_true rfl) d_M_accepts_127 ⟨Nat.zero_le _, Nat.zero_le _⟩ ?_
      refine lv_icmp_ne (tgt := 137) hx hb d_M_accepts_130 rfl (fun h130 => ?_) (fun h130 => ?_)
      · skip
        have a0 : acP ar false n 0 = false := acP_f hp (fun q => h130 (congrArg nI q))
        refine lv_iconst (v := 0) hx hb d_M_accepts_137 rfl ?_
        refine lv_istore_n (lv' := [(3, .int 0), (8, .int (nI (ar 14 ((2 * n) + 0)))), (7, .int (nI ((2 * n) + 0))), (6, .int 0), (5, .int (nI (ar 16 n))), (4, .int (nI (ar 15 n))), (0, .ref (am 0)), (1, .int (nI n)), (2, .int (zb false))]) hx hb d_M_accepts_138 rfl hl (by decide) rfl (fun ls hl => ?_)
        refine lv_iinc (k := 3) (v := nI (0 + 1)) (lv' := [(6, .int (nI (0 + 1))), (3, .int 0), (8, .int (nI (ar 14 ((2 * n) + 0)))), (7, .int (nI ((2 * n) + 0))), (5, .int (nI (ar 16 n))), (4, .int (nI (ar 15 n))), (0, .ref (am 0)), (1, .int (nI n)), (2, .int (zb false))]) hx hb d_M_accepts_139 hl rfl (nI_1 _) (by decide) rfl (fun ls hl => ?_)
        refine lv_goto (tgt := 47) hx hb d_M_accepts_142 rfl ?_
        have hl : lv_has ls 9 [(6, .int 1), (3, .int 0), (8, .int (nI (ar 14 ((2 * n) + 0)))), (7, .int (nI ((2 * n) + 0))), (5, .int (nI (ar 16 n))), (4, .int (nI (ar 15 n))), (0, .ref (am 0)), (1, .int (nI n)), (2, .int (zb false))] := hl
        refine lv_iload hx hb d_M_accepts_47 (lv_at hl 0 rfl) ?_
        refine lv_iconst (v := 2) hx hb d_M_accepts_49 rfl ?_
        refine lv_icmp_ge (tgt := 145) hx hb d_M_accepts_50 rfl (fun h50 => absurd h50 (by decide)) (fun h50 => ?_)
        refine lv_iconst (v := 2) hx hb d_M_accepts_53 rfl ?_
        refine lv_iload_n hx hb d_M_accepts_54 rfl (lv_at hl 7 rfl) ?_
        refine lv_imul hx hb d_M_accepts_55 ?_
        refine zz_as (y := nI (2 * n)) (pk_mul 2 n) ?_
        refine lv_iload hx hb d_M_accepts_56 (lv_at hl 0 rfl) ?_
        refine lv_iadd hx hb d_M_accepts_58 ?_
        refine zz_as (y := nI ((2 * n) + 1)) (nI_add (2 * n) 1) ?_
        refine lv_istore (lv' := [(7, .int (nI ((2 * n) + 1))), (6, .int 1), (3, .int 0), (8, .int (nI (ar 14 ((2 * n) + 0)))), (5, .int (nI (ar 16 n))), (4, .int (nI (ar 15 n))), (0, .ref (am 0)), (1, .int (nI n)), (2, .int (zb false))]) hx hb d_M_accepts_59 hl (by decide) rfl (fun ls hl => ?_)
        refine lv_iload_n hx hb d_M_accepts_61 rfl (lv_at hl 8 rfl) ?_
        refine lv_if_eq (tgt := 75) hx hb d_M_accepts_62 rfl (fun h62 => ?_) (fun h62 => absurd (rfl) h62)
        refine lv_aload_n hx hb d_M_accepts_75 rfl (lv_at hl 6 rfl) ?_
        refine mm_get hx hb hts hown hK hP (index := 49) 13 (by decide) mf_M_49 (v := .ref (am 14)) rfl d_M_accepts_76 ?_
        refine lv_iload hx hb d_M_accepts_79 (lv_at hl 0 rfl) ?_
        refine mm_ald hx hb hK hP 13 (by decide) rfl ((2 * n) + 1) rfl (show (2 * n) + 1 < 16 from by omega) (ar 14 ((2 * n) + 1)) (rfl) d_M_accepts_81 ?_
        refine lv_istore (lv' := [(8, .int (nI (ar 14 ((2 * n) + 1)))), (7, .int (nI ((2 * n) + 1))), (6, .int 1), (3, .int 0), (5, .int (nI (ar 16 n))), (4, .int (nI (ar 15 n))), (0, .ref (am 0)), (1, .int (nI n)), (2, .int (zb false))]) hx hb d_M_accepts_82 hl (by decide) rfl (fun ls hl => ?_)
        refine lv_aload_n hx hb d_M_accepts_84 rfl (lv_at hl 6 rfl) ?_
        refine lv_iload_n hx hb d_M_accepts_85 rfl (lv_at hl 7 rfl) ?_
        refine lv_iload hx hb d_M_accepts_86 (lv_at hl 2 rfl) ?_
        refine zz_cV (index := 138) (n := 2) (As := [.int (nI n), .int 1]) (rest := []) ⟨hx, hb, hml, hown, hts⟩ (k_isPairM l D ca am (ar) n 1 (by omega) (by decide) hl2 hbs) mk_M_138 mo_M_isPair me_M_M_isPair_M mi_M mc_M_isPair (by decide +kernel) ⟨rfl, rfl⟩ ⟨by decide, by decide⟩ (mm_pre hK hP) rfl hl.1 rfl (Nat.le_of_ble_eq_true rfl) d_M_accepts_88 ⟨Nat.zero_le _, Nat.zero_le _⟩ ?_
        refine lv_if_eq (tgt := 139) hx hb d_M_accepts_91 rfl (fun h91 => ?_) (fun h91 => ?_)
        · skip
          have a1 : acP ar false n 1 = true := acP_n (pairB_f hn (zb_eq (b := pairB ar n 1) h91))
          refine lv_iinc (k := 2) (v := nI (1 + 1)) (lv' := [(6, .int (nI (1 + 1))), (8, .int (nI (ar 14 ((2 * n) + 1)))), (7, .int (nI ((2 * n) + 1))), (3, .int 0), (5, .int (nI (ar 16 n))), (4, .int (nI (ar 15 n))), (0, .ref (am 0)), (1, .int (nI n)), (2, .int (zb false))]) hx hb d_M_accepts_139 hl rfl (nI_1 _) (by decide) rfl (fun ls hl => ?_)
          refine lv_goto (tgt := 47) hx hb d_M_accepts_142 rfl ?_
          have hl : lv_has ls 9 [(6, .int 2), (8, .int (nI (ar 14 ((2 * n) + 1)))), (7, .int (nI ((2 * n) + 1))), (3, .int 0), (5, .int (nI (ar 16 n))), (4, .int (nI (ar 15 n))), (0, .ref (am 0)), (1, .int (nI n)), (2, .int (zb false))] := hl
          refine lv_iload hx hb d_M_accepts_47 (lv_at hl 0 rfl) ?_
          refine lv_iconst (v := 2) hx hb d_M_accepts_49 rfl ?_
          refine lv_icmp_ge (tgt := 145) hx hb d_M_accepts_50 rfl (fun h50 => ?_) (fun h50 => absurd (by decide) h50)
          refine lv_iload_n hx hb d_M_accepts_145 rfl (lv_at hl 3 rfl) ?_
          have hq : acB ar false n = false := by unfold acB; first | (rw [a0]; rfl) | (rw [a1, Bool.and_false])
          refine zz_as (y := zb (acB ar false n)) (by rw [hq]; rfl) ?_
          exact W.zret hx hb hr (zb_nar _) (fun t ht hW => ⟨rfl, ht⟩) (fun q h => absurd h List.not_mem_nil) d_M_accepts_146
        · skip
          have hp : 0 < ar 11 (2 * n + 1) := (pairB_t (zb_ne (b := pairB ar n 1) h91)).2
          refine lv_iload_n hx hb d_M_accepts_94 rfl (lv_at hl 3 rfl) ?_
          refine lv_if_eq (tgt := 137) hx hb d_M_accepts_95 rfl (fun h95 => ?_) (fun h95 => absurd (rfl) h95)
          refine lv_iconst (v := 0) hx hb d_M_accepts_137 rfl ?_
          refine lv_istore_n (lv' := [(3, .int 0), (8, .int (nI (ar 14 ((2 * n) + 1)))), (7, .int (nI ((2 * n) + 1))), (6, .int 1), (5, .int (nI (ar 16 n))), (4, .int (nI (ar 15 n))), (0, .ref (am 0)), (1, .int (nI n)), (2, .int (zb false))]) hx hb d_M_accepts_138 rfl hl (by decide) rfl (fun ls hl => ?_)
          refine lv_iinc (k := 3) (v := nI (1 + 1)) (lv' := [(6, .int (nI (1 + 1))), (3, .int 0), (8, .int (nI (ar 14 ((2 * n) + 1)))), (7, .int (nI ((2 * n) + 1))), (5, .int (nI (ar 16 n))), (4, .int (nI (ar 15 n))), (0, .ref (am 0)), (1, .int (nI n)), (2, .int (zb false))]) hx hb d_M_accepts_139 hl rfl (nI_1 _) (by decide) rfl (fun ls hl => ?_)
          refine lv_goto (tgt := 47) hx hb d_M_accepts_142 rfl ?_
          have hl : lv_has ls 9 [(6, .int 2), (3, .int 0), (8, .int (nI (ar 14 ((2 * n) + 1)))), (7, .int (nI ((2 * n) + 1))), (5, .int (nI (ar 16 n))), (4, .int (nI (ar 15 n))), (0, .ref (am 0)), (1, .int (nI n)), (2, .int (zb false))] := hl
          refine lv_iload hx hb d_M_accepts_47 (lv_at hl 0 rfl) ?_
          refine lv_iconst (v := 2) hx hb d_M_accepts_49 rfl ?_
          refine lv_icmp_ge (tgt := 145) hx hb d_M_accepts_50 rfl (fun h50 => ?_) (fun h50 => absurd (by decide) h50)
          refine lv_iload_n hx hb d_M_accepts_145 rfl (lv_at hl 1 rfl) ?_
          have hq : acB ar false n = false := by unfold acB; first | (rw [a0]; rfl) | (rw [a1, Bool.and_false])
          refine zz_as (y := zb (acB ar false n)) (by rw [hq]; rfl) ?_
          exact W.zret hx hb hr (zb_nar _) (fun t ht hW => ⟨rfl, ht⟩) (fun q h => absurd h List.not_mem_nil) d_M_accepts_146
      · skip
        have a0 : acP ar false n 0 = true := acP_e (zn_eqm.mp h130)
        refine lv_iconst (v := 1) hx hb d_M_accepts_133 rfl ?_
        refine lv_goto (tgt := 138) hx hb d_M_accepts_134 rfl ?_
        refine lv_istore_n (lv' := [(3, .int 1), (8, .int (nI (ar 14 ((2 * n) + 0)))), (7, .int (nI ((2 * n) + 0))), (6, .int 0), (5, .int (nI (ar 16 n))), (4, .int (nI (ar 15 n))), (0, .ref (am 0)), (1, .int (nI n)), (2, .int (zb false))]) hx hb d_M_accepts_138 rfl hl (by decide) rfl (fun ls hl => ?_)
        refine lv_iinc (k := 3) (v := nI (0 + 1)) (lv' := [(6, .int (nI (0 + 1))), (3, .int 1), (8, .int (nI (ar 14 ((2 * n) + 0)))), (7, .int (nI ((2 * n) + 0))), (5, .int (nI (ar 16 n))), (4, .int (nI (ar 15 n))), (0, .ref (am 0)), (1, .int (nI n)), (2, .int (zb false))]) hx hb d_M_accepts_139 hl rfl (nI_1 _) (by decide) rfl (fun ls hl => ?_)
        refine lv_goto (tgt := 47) hx hb d_M_accepts_142 rfl ?_
        have hl : lv_has ls 9 [(6, .int 1), (3, .int 1), (8, .int (nI (ar 14 ((2 * n) + 0)))), (7, .int (nI ((2 * n) + 0))), (5, .int (nI (ar 16 n))), (4, .int (nI (ar 15 n))), (0, .ref (am 0)), (1, .int (nI n)), (2, .int (zb false))] := hl
        refine lv_iload hx hb d_M_accepts_47 (lv_at hl 0 rfl) ?_
        refine lv_iconst (v := 2) hx hb d_M_accepts_49 rfl ?_
        refine lv_icmp_ge (tgt := 145) hx hb d_M_accepts_50 rfl (fun h50 => absurd h50 (by decide)) (fun h50 => ?_)
        refine lv_iconst (v := 2) hx hb d_M_accepts_53 rfl ?_
        refine lv_iload_n hx hb d_M_accepts_54 rfl (lv_at hl 7 rfl) ?_
        refine lv_imul hx hb d_M_accepts_55 ?_
        refine zz_as (y := nI (2 * n)) (pk_mul 2 n) ?_
        refine lv_iload hx hb d_M_accepts_56 (lv_at hl 0 rfl) ?_
        refine lv_iadd hx hb d_M_accepts_58 ?_
        refine zz_as (y := nI ((2 * n) + 1)) (nI_add (2 * n) 1) ?_
        refine lv_istore (lv' := [(7, .int (nI ((2 * n) + 1))), (6, .int 1), (3, .int 1), (8, .int (nI (ar 14 ((2 * n) + 0)))), (5, .int (nI (ar 16 n))), (4, .int (nI (ar 15 n))), (0, .ref (am 0)), (1, .int (nI n)), (2, .int (zb false))]) hx hb d_M_accepts_59 hl (by decide) rfl (fun ls hl => ?_)
        refine lv_iload_n hx hb d_M_accepts_61 rfl (lv_at hl 8 rfl) ?_
        refine lv_if_eq (tgt := 75) hx hb d_M_accepts_62 rfl (fun h62 => ?_) (fun h62 => absurd (rfl) h62)
        refine lv_aload_n hx hb d_M_accepts_75 rfl (lv_at hl 6 rfl) ?_
        refine mm_get hx hb hts hown hK hP (index := 49) 13 (by decide) mf_M_49 (v := .ref (am 14)) rfl d_M_accepts_76 ?_
        refine lv_iload hx hb d_M_accepts_79 (lv_at hl 0 rfl) ?_
        refine mm_ald hx hb hK hP 13 (by decide) rfl ((2 * n) + 1) rfl (show (2 * n) + 1 < 16 from by omega) (ar 14 ((2 * n) + 1)) (rfl) d_M_accepts_81 ?_
        refine lv_istore (lv' := [(8, .int (nI (ar 14 ((2 * n) + 1)))), (7, .int (nI ((2 * n) + 1))), (6, .int 1), (3, .int 1), (5, .int (nI (ar 16 n))), (4, .int (nI (ar 15 n))), (0, .ref (am 0)), (1, .int (nI n)), (2, .int (zb false))]) hx hb d_M_accepts_82 hl (by decide) rfl (fun ls hl => ?_)
        refine lv_aload_n hx hb d_M_accepts_84 rfl (lv_at hl 6 rfl) ?_
        refine lv_iload_n hx hb d_M_accepts_85 rfl (lv_at hl 7 rfl) ?_
        refine lv_iload hx hb d_M_accepts_86 (lv_at hl 2 rfl) ?_
        refine zz_cV (index := 138) (n := 2) (As := [.int (nI n), .int 1]) (rest := []) ⟨hx, hb, hml, hown, hts⟩ (k_isPairM l D ca am (ar) n 1 (by omega) (by decide) hl2 hbs) mk_M_138 mo_M_isPair me_M_M_isPair_M mi_M mc_M_isPair (by decide +kernel) ⟨rfl, rfl⟩ ⟨by decide, by decide⟩ (mm_pre hK hP) rfl hl.1 rfl (Nat.le_of_ble_eq_true rfl) d_M_accepts_88 ⟨Nat.zero_le _, Nat.zero_le _⟩ ?_
        refine lv_if_eq (tgt := 139) hx hb d_M_accepts_91 rfl (fun h91 => ?_) (fun h91 => ?_)
        · skip
          have a1 : acP ar false n 1 = true := acP_n (pairB_f hn (zb_eq (b := pairB ar n 1) h91))
          refine lv_iinc (k := 2) (v := nI (1 + 1)) (lv' := [(6, .int (nI (1 + 1))), (8, .int (nI (ar 14 ((2 * n) + 1)))), (7, .int (nI ((2 * n) + 1))), (3, .int 1), (5, .int (nI (ar 16 n))), (4, .int (nI (ar 15 n))), (0, .ref (am 0)), (1, .int (nI n)), (2, .int (zb false))]) hx hb d_M_accepts_139 hl rfl (nI_1 _) (by decide) rfl (fun ls hl => ?_)
          refine lv_goto (tgt := 47) hx hb d_M_accepts_142 rfl ?_
          have hl : lv_has ls 9 [(6, .int 2), (8, .int (nI (ar 14 ((2 * n) + 1)))), (7, .int (nI ((2 * n) + 1))), (3, .int 1), (5, .int (nI (ar 16 n))), (4, .int (nI (ar 15 n))), (0, .ref (am 0)), (1, .int (nI n)), (2, .int (zb false))] := hl
          refine lv_iload hx hb d_M_accepts_47 (lv_at hl 0 rfl) ?_
          refine lv_iconst (v := 2) hx hb d_M_accepts_49 rfl ?_
          refine lv_icmp_ge (tgt := 145) hx hb d_M_accepts_50 rfl (fun h50 => ?_) (fun h50 => absurd (by decide) h50)
          refine lv_iload_n hx hb d_M_accepts_145 rfl (lv_at hl 3 rfl) ?_
          have hq : acB ar false n = true := by unfold acB; rw [a0, a1]; rfl
          refine zz_as (y := zb (acB ar false n)) (by rw [hq]; rfl) ?_
          exact W.zret hx hb hr (zb_nar _) (fun t ht hW => ⟨rfl, ht⟩) (fun q h => absurd h List.not_mem_nil) d_M_accepts_146
        · skip
          have hp : 0 < ar 11 (2 * n + 1) := (pairB_t (zb_ne (b := pairB ar n 1) h91)).2
          refine lv_iload_n hx hb d_M_accepts_94 rfl (lv_at hl 3 rfl) ?_
          refine lv_if_eq (tgt := 137) hx hb d_M_accepts_95 rfl (fun h95 => absurd h95 (by decide)) (fun h95 => ?_)
          refine lv_aload_n hx hb d_M_accepts_98 rfl (lv_at hl 6 rfl) ?_
          refine mm_get hx hb hts hown hK hP (index := 40) 10 (by decide) mf_M_40 (v := .ref (am 11)) rfl d_M_accepts_99 ?_
          refine lv_iload hx hb d_M_accepts_102 (lv_at hl 1 rfl) ?_
          refine mm_ald hx hb hK hP 10 (by decide) rfl ((2 * n) + 1) rfl (show (2 * n) + 1 < 16 from by omega) (ar 11 ((2 * n) + 1)) (rfl) d_M_accepts_104 ?_
          refine lv_iload hx hb d_M_accepts_105 (lv_at hl 4 rfl) ?_
          refine zz_cS (index := 96) (n := 2) (As := [.int (nI (ar 11 (2 * n + 1))), .int (nI (ar 16 n))]) (rest := []) ⟨hx, hb, hml, hown, hts⟩ (k_raised l (ar 11 (2 * n + 1)) (ar 16 n) (hbs _ (by omega)) (by omega)) mk_M_96 ms_M_raised mi_M mc_M_raised (by decide +kernel) ⟨rfl, rfl⟩ ⟨by decide, by decide⟩ preEq rfl hl.1 rfl (Nat.le_of_ble_eq_true rfl) d_M_accepts_107 ⟨Nat.zero_le _, Nat.zero_le _⟩ ?_
          refine lv_iload hx hb d_M_accepts_110 (lv_at hl 0 rfl) ?_
          refine lv_aload_n hx hb d_M_accepts_112 rfl (lv_at hl 6 rfl) ?_
          refine mm_get hx hb hts hown hK hP (index := 43) 11 (by decide) mf_M_43 (v := .ref (am 12)) rfl d_M_accepts_113 ?_
          refine lv_iload hx hb d_M_accepts_116 (lv_at hl 1 rfl) ?_
          refine mm_ald hx hb hK hP 11 (by decide) rfl ((2 * n) + 1) rfl (show (2 * n) + 1 < 16 from by omega) (ar 12 ((2 * n) + 1)) (rfl) d_M_accepts_118 ?_
          refine lv_iload hx hb d_M_accepts_119 (lv_at hl 5 rfl) ?_
          refine zz_cS (index := 96) (n := 2) (As := [.int (nI (ar 12 (2 * n + 1))), .int (nI (ar 15 n))]) (rest := [.int (nI (ar 14 ((2 * n) + 1))), .int (nI (ar 11 (2 * n + 1) ^ ar 16 n % 10007))]) ⟨hx, hb, hml, hown, hts⟩ (k_raised l (ar 12 (2 * n + 1)) (ar 15 n) (his _ (by omega)) (by omega)) mk_M_96 ms_M_raised mi_M mc_M_raised (by decide +kernel) ⟨rfl, rfl⟩ ⟨by decide, by decide⟩ preEq rfl hl.1 rfl (Nat.le_of_ble_eq_true rfl) d_M_accepts_121 ⟨Nat.zero_le _, Nat.zero_le _⟩ ?_
          refine lv_sipush (v := 10007) hx hb d_M_accepts_124 rfl ?_
          refine zz_cS (index := 92) (n := 3) (As := [.int (nI (ar 14 (2 * n + 1))), .int (nI (ar 12 (2 * n + 1) ^ ar 15 n % 10007)), .int 10007]) (rest := [.int (nI (ar 11 (2 * n + 1) ^ ar 16 n % 10007))]) ⟨hx, hb, hml, hown, hts⟩ (k_times l (ar 14 (2 * n + 1)) (ar 12 (2 * n + 1) ^ ar 15 n % 10007) 10007 (by have := hN8.1 (2 * n + 1) (by omega); omega) (Nat.lt_trans (Nat.mod_lt _ (by decide)) (by decide)) (by decide) (by decide)) mk_M_92 ms_M_times mi_M mc_M_times (by decide +kernel) ⟨rfl, rfl⟩ ⟨by decide, by decide⟩ preEq rfl hl.1 rfl (Nat.le_of_ble_eq_true rfl) d_M_accepts_127 ⟨Nat.zero_le _, Nat.zero_le _⟩ ?_
          refine lv_icmp_ne (tgt := 137) hx hb d_M_accepts_130 rfl (fun h130 => ?_) (fun h130 => ?_)
          · skip
            have a1 : acP ar false n 1 = false := acP_f hp (fun q => h130 (congrArg nI q))
            refine lv_iconst (v := 0) hx hb d_M_accepts_137 rfl ?_
            refine lv_istore_n (lv' := [(3, .int 0), (8, .int (nI (ar 14 ((2 * n) + 1)))), (7, .int (nI ((2 * n) + 1))), (6, .int 1), (5, .int (nI (ar 16 n))), (4, .int (nI (ar 15 n))), (0, .ref (am 0)), (1, .int (nI n)), (2, .int (zb false))]) hx hb d_M_accepts_138 rfl hl (by decide) rfl (fun ls hl => ?_)
            refine lv_iinc (k := 3) (v := nI (1 + 1)) (lv' := [(6, .int (nI (1 + 1))), (3, .int 0), (8, .int (nI (ar 14 ((2 * n) + 1)))), (7, .int (nI ((2 * n) + 1))), (5, .int (nI (ar 16 n))), (4, .int (nI (ar 15 n))), (0, .ref (am 0)), (1, .int (nI n)), (2, .int (zb false))]) hx hb d_M_accepts_139 hl rfl (nI_1 _) (by decide) rfl (fun ls hl => ?_)
            refine lv_goto (tgt := 47) hx hb d_M_accepts_142 rfl ?_
            have hl : lv_has ls 9 [(6, .int 2), (3, .int 0), (8, .int (nI (ar 14 ((2 * n) + 1)))), (7, .int (nI ((2 * n) + 1))), (5, .int (nI (ar 16 n))), (4, .int (nI (ar 15 n))), (0, .ref (am 0)), (1, .int (nI n)), (2, .int (zb false))] := hl
            refine lv_iload hx hb d_M_accepts_47 (lv_at hl 0 rfl) ?_
            refine lv_iconst (v := 2) hx hb d_M_accepts_49 rfl ?_
            refine lv_icmp_ge (tgt := 145) hx hb d_M_accepts_50 rfl (fun h50 => ?_) (fun h50 => absurd (by decide) h50)
            refine lv_iload_n hx hb d_M_accepts_145 rfl (lv_at hl 1 rfl) ?_
            have hq : acB ar false n = false := by unfold acB; first | (rw [a0]; rfl) | (rw [a1, Bool.and_false])
            refine zz_as (y := zb (acB ar false n)) (by rw [hq]; rfl) ?_
            exact W.zret hx hb hr (zb_nar _) (fun t ht hW => ⟨rfl, ht⟩) (fun q h => absurd h List.not_mem_nil) d_M_accepts_146
          · skip
            have a1 : acP ar false n 1 = true := acP_e (zn_eqm.mp h130)
            refine lv_iconst (v := 1) hx hb d_M_accepts_133 rfl ?_
            refine lv_goto (tgt := 138) hx hb d_M_accepts_134 rfl ?_
            refine lv_istore_n (lv' := [(3, .int 1), (8, .int (nI (ar 14 ((2 * n) + 1)))), (7, .int (nI ((2 * n) + 1))), (6, .int 1), (5, .int (nI (ar 16 n))), (4, .int (nI (ar 15 n))), (0, .ref (am 0)), (1, .int (nI n)), (2, .int (zb false))]) hx hb d_M_accepts_138 rfl hl (by decide) rfl (fun ls hl => ?_)
            refine lv_iinc (k := 3) (v := nI (1 + 1)) (lv' := [(6, .int (nI (1 + 1))), (3, .int 1), (8, .int (nI (ar 14 ((2 * n) + 1)))), (7, .int (nI ((2 * n) + 1))), (5, .int (nI (ar 16 n))), (4, .int (nI (ar 15 n))), (0, .ref (am 0)), (1, .int (nI n)), (2, .int (zb false))]) hx hb d_M_accepts_139 hl rfl (nI_1 _) (by decide) rfl (fun ls hl => ?_)
            refine lv_goto (tgt := 47) hx hb d_M_accepts_142 rfl ?_
            have hl : lv_has ls 9 [(6, .int 2), (3, .int 1), (8, .int (nI (ar 14 ((2 * n) + 1)))), (7, .int (nI ((2 * n) + 1))), (5, .int (nI (ar 16 n))), (4, .int (nI (ar 15 n))), (0, .ref (am 0)), (1, .int (nI n)), (2, .int (zb false))] := hl
            refine lv_iload hx hb d_M_accepts_47 (lv_at hl 0 rfl) ?_
            refine lv_iconst (v := 2) hx hb d_M_accepts_49 rfl ?_
            refine lv_icmp_ge (tgt := 145) hx hb d_M_accepts_50 rfl (fun h50 => ?_) (fun h50 => absurd (by decide) h50)
            refine lv_iload_n hx hb d_M_accepts_145 rfl (lv_at hl 1 rfl) ?_
            have hq : acB ar false n = true := by unfold acB; rw [a0, a1]; rfl
            refine zz_as (y := zb (acB ar false n)) (by rw [hq]; rfl) ?_
            exact W.zret hx hb hr (zb_nar _) (fun t ht hW => ⟨rfl, ht⟩) (fun q h => absurd h List.not_mem_nil) d_M_accepts_146
  | true =>
    have hb8 := hN8.2 n (by omega)
    refine lv_iconst (v := 1) hx hb d_M_accepts_0 rfl ?_
    refine lv_istore_n (lv' := [(3, .int 1), (0, .ref (am 0)), (1, .int (nI n)), (2, .int (zb true))]) hx hb d_M_accepts_1 rfl hl (by decide) rfl (fun ls hl => ?_)
    refine lv_iload_n hx hb d_M_accepts_2 rfl (lv_at hl 3 rfl) ?_
    refine lv_if_eq (tgt := 15) hx hb d_M_accepts_3 rfl (fun h3 => absurd h3 (by decide)) (fun h3 => ?_)
    refine lv_aload_n hx hb d_M_accepts_6 rfl (lv_at hl 1 rfl) ?_
    refine mm_get hx hb hts hown hK hP (index := 61) 17 (by decide) mf_M_61 (v := .ref (am 18)) rfl d_M_accepts_7 ?_
    refine lv_iload_n hx hb d_M_accepts_10 rfl (lv_at hl 2 rfl) ?_
    refine mm_ald hx hb hK hP 17 (by decide) rfl (n) rfl (show n < 8 from by omega) (ar 18 n) (rfl) d_M_accepts_11 ?_
    refine lv_goto (tgt := 21) hx hb d_M_accepts_12 rfl ?_
    refine lv_istore (lv' := [(4, .int (nI (ar 18 n))), (3, .int 1), (0, .ref (am 0)), (1, .int (nI n)), (2, .int (zb true))]) hx hb d_M_accepts_21 hl (by decide) rfl (fun ls hl => ?_)
    refine lv_iload_n hx hb d_M_accepts_23 rfl (lv_at hl 4 rfl) ?_
    refine lv_if_eq (tgt := 36) hx hb d_M_accepts_24 rfl (fun h24 => absurd h24 (by decide)) (fun h24 => ?_)
    refine lv_aload_n hx hb d_M_accepts_27 rfl (lv_at hl 2 rfl) ?_
    refine mm_get hx hb hts hown hK hP (index := 64) 18 (by decide) mf_M_64 (v := .ref (am 19)) rfl d_M_accepts_28 ?_
    refine lv_iload_n hx hb d_M_accepts_31 rfl (lv_at hl 3 rfl) ?_
    refine mm_ald hx hb hK hP 18 (by decide) rfl (n) rfl (show n < 8 from by omega) (ar 19 n) (rfl) d_M_accepts_32 ?_
    refine lv_goto (tgt := 42) hx hb d_M_accepts_33 rfl ?_
    refine lv_istore (lv' := [(5, .int (nI (ar 19 n))), (4, .int (nI (ar 18 n))), (3, .int 1), (0, .ref (am 0)), (1, .int (nI n)), (2, .int (zb true))]) hx hb d_M_accepts_42 hl (by decide) rfl (fun ls hl => ?_)
    refine lv_iconst (v := 0) hx hb d_M_accepts_44 rfl ?_
    refine lv_istore (lv' := [(6, .int 0), (5, .int (nI (ar 19 n))), (4, .int (nI (ar 18 n))), (3, .int 1), (0, .ref (am 0)), (1, .int (nI n)), (2, .int (zb true))]) hx hb d_M_accepts_45 hl (by decide) rfl (fun ls hl => ?_)
    have hl : lv_has ls 9 [(6, .int 0), (5, .int (nI (ar 19 n))), (4, .int (nI (ar 18 n))), (3, .int 1), (0, .ref (am 0)), (1, .int (nI n)), (2, .int (zb true))] := hl
    refine lv_iload hx hb d_M_accepts_47 (lv_at hl 0 rfl) ?_
    refine lv_iconst (v := 2) hx hb d_M_accepts_49 rfl ?_
    refine lv_icmp_ge (tgt := 145) hx hb d_M_accepts_50 rfl (fun h50 => absurd h50 (by decide)) (fun h50 => ?_)
    refine lv_iconst (v := 2) hx hb d_M_accepts_53 rfl ?_
    refine lv_iload_n hx hb d_M_accepts_54 rfl (lv_at hl 5 rfl) ?_
    refine lv_imul hx hb d_M_accepts_55 ?_
    refine zz_as (y := nI (2 * n)) (pk_mul 2 n) ?_
    refine lv_iload hx hb d_M_accepts_56 (lv_at hl 0 rfl) ?_
    refine lv_iadd hx hb d_M_accepts_58 ?_
    refine zz_as (y := nI ((2 * n) + 0)) (nI_add (2 * n) 0) ?_
    refine lv_istore (lv' := [(7, .int (nI ((2 * n) + 0))), (6, .int 0), (5, .int (nI (ar 19 n))), (4, .int (nI (ar 18 n))), (3, .int 1), (0, .ref (am 0)), (1, .int (nI n)), (2, .int (zb true))]) hx hb d_M_accepts_59 hl (by decide) rfl (fun ls hl => ?_)
    refine lv_iload_n hx hb d_M_accepts_61 rfl (lv_at hl 7 rfl) ?_
    refine lv_if_eq (tgt := 75) hx hb d_M_accepts_62 rfl (fun h62 => absurd h62 (by decide)) (fun h62 => ?_)
    refine lv_aload_n hx hb d_M_accepts_65 rfl (lv_at hl 5 rfl) ?_
    refine mm_get hx hb hts hown hK hP (index := 58) 16 (by decide) mf_M_58 (v := .ref (am 17)) rfl d_M_accepts_66 ?_
    refine lv_iload hx hb d_M_accepts_69 (lv_at hl 0 rfl) ?_
    refine mm_ald hx hb hK hP 16 (by decide) rfl ((2 * n) + 0) rfl (show (2 * n) + 0 < 16 from by omega) (ar 17 ((2 * n) + 0)) (rfl) d_M_accepts_71 ?_
    refine lv_goto (tgt := 82) hx hb d_M_accepts_72 rfl ?_
    refine lv_istore (lv' := [(8, .int (nI (ar 17 ((2 * n) + 0)))), (7, .int (nI ((2 * n) + 0))), (6, .int 0), (5, .int (nI (ar 19 n))), (4, .int (nI (ar 18 n))), (3, .int 1), (0, .ref (am 0)), (1, .int (nI n)), (2, .int (zb true))]) hx hb d_M_accepts_82 hl (by decide) rfl (fun ls hl => ?_)
    refine lv_aload_n hx hb d_M_accepts_84 rfl (lv_at hl 6 rfl) ?_
    refine lv_iload_n hx hb d_M_accepts_85 rfl (lv_at hl 7 rfl) ?_
    refine lv_iload hx hb d_M_accepts_86 (lv_at hl 2 rfl) ?_
    refine zz_cV (index := 138) (n := 2) (As := [.int (nI n), .int 0]) (rest := []) ⟨hx, hb, hml, hown, hts⟩ (k_isPairM l D ca am (ar) n 0 (by omega) (by decide) hl2 hbs) mk_M_138 mo_M_isPair me_M_M_isPair_M mi_M mc_M_isPair (by decide +kernel) ⟨rfl, rfl⟩ ⟨by decide, by decide⟩ (mm_pre hK hP) rfl hl.1 rfl (Nat.le_of_ble_eq_true rfl) d_M_accepts_88 ⟨Nat.zero_le _, Nat.zero_le _⟩ ?_
    refine lv_if_eq (tgt := 139) hx hb d_M_accepts_91 rfl (fun h91 => ?_) (fun h91 => ?_)
    · skip
      have a0 : acP ar true n 0 = true := acP_n (pairB_f hn (zb_eq (b := pairB ar n 0) h91))
      refine lv_iinc (k := 2) (v := nI (0 + 1)) (lv' := [(6, .int (nI (0 + 1))), (8, .int (nI (ar 17 ((2 * n) + 0)))), (7, .int (nI ((2 * n) + 0))), (5, .int (nI (ar 19 n))), (4, .int (nI (ar 18 n))), (3, .int 1), (0, .ref (am 0)), (1, .int (nI n)), (2, .int (zb true))]) hx hb d_M_accepts_139 hl rfl (nI_1 _) (by decide) rfl (fun ls hl => ?_)
      refine lv_goto (tgt := 47) hx hb d_M_accepts_142 rfl ?_
      have hl : lv_has ls 9 [(6, .int 1), (8, .int (nI (ar 17 ((2 * n) + 0)))), (7, .int (nI ((2 * n) + 0))), (5, .int (nI (ar 19 n))), (4, .int (nI (ar 18 n))), (3, .int 1), (0, .ref (am 0)), (1, .int (nI n)), (2, .int (zb true))] := hl
      refine lv_iload hx hb d_M_accepts_47 (lv_at hl 0 rfl) ?_
      refine lv_iconst (v := 2) hx hb d_M_accepts_49 rfl ?_
      refine lv_icmp_ge (tgt := 145) hx hb d_M_accepts_50 rfl (fun h50 => absurd h50 (by decide)) (fun h50 => ?_)
      refine lv_iconst (v := 2) hx hb d_M_accepts_53 rfl ?_
      refine lv_iload_n hx hb d_M_accepts_54 rfl (lv_at hl 7 rfl) ?_
      refine lv_imul hx hb d_M_accepts_55 ?_
      refine zz_as (y := nI (2 * n)) (pk_mul 2 n) ?_
      refine lv_iload hx hb d_M_accepts_56 (lv_at hl 0 rfl) ?_
      refine lv_iadd hx hb d_M_accepts_58 ?_
      refine zz_as (y := nI ((2 * n) + 1)) (nI_add (2 * n) 1) ?_
      refine lv_istore (lv' := [(7, .int (nI ((2 * n) + 1))), (6, .int 1), (8, .int (nI (ar 17 ((2 * n) + 0)))), (5, .int (nI (ar 19 n))), (4, .int (nI (ar 18 n))), (3, .int 1), (0, .ref (am 0)), (1, .int (nI n)), (2, .int (zb true))]) hx hb d_M_accepts_59 hl (by decide) rfl (fun ls hl => ?_)
      refine lv_iload_n hx hb d_M_accepts_61 rfl (lv_at hl 8 rfl) ?_
      refine lv_if_eq (tgt := 75) hx hb d_M_accepts_62 rfl (fun h62 => absurd h62 (by decide)) (fun h62 => ?_)
      refine lv_aload_n hx hb d_M_accepts_65 rfl (lv_at hl 6 rfl) ?_
      refine mm_get hx hb hts hown hK hP (index := 58) 16 (by decide) mf_M_58 (v := .ref (am 17)) rfl d_M_accepts_66 ?_
      refine lv_iload hx hb d_M_accepts_69 (lv_at hl 0 rfl) ?_
      refine mm_ald hx hb hK hP 16 (by decide) rfl ((2 * n) + 1) rfl (show (2 * n) + 1 < 16 from by omega) (ar 17 ((2 * n) + 1)) (rfl) d_M_accepts_71 ?_
      refine lv_goto (tgt := 82) hx hb d_M_accepts_72 rfl ?_
      refine lv_istore (lv' := [(8, .int (nI (ar 17 ((2 * n) + 1)))), (7, .int (nI ((2 * n) + 1))), (6, .int 1), (5, .int (nI (ar 19 n))), (4, .int (nI (ar 18 n))), (3, .int 1), (0, .ref (am 0)), (1, .int (nI n)), (2, .int (zb true))]) hx hb d_M_accepts_82 hl (by decide) rfl (fun ls hl => ?_)
      refine lv_aload_n hx hb d_M_accepts_84 rfl (lv_at hl 6 rfl) ?_
      refine lv_iload_n hx hb d_M_accepts_85 rfl (lv_at hl 7 rfl) ?_
      refine lv_iload hx hb d_M_accepts_86 (lv_at hl 2 rfl) ?_
      refine zz_cV (index := 138) (n := 2) (As := [.int (nI n), .int 1]) (rest := []) ⟨hx, hb, hml, hown, hts⟩ (k_isPairM l D ca am (ar) n 1 (by omega) (by decide) hl2 hbs) mk_M_138 mo_M_isPair me_M_M_isPair_M mi_M mc_M_isPair (by decide +kernel) ⟨rfl, rfl⟩ ⟨by decide, by decide⟩ (mm_pre hK hP) rfl hl.1 rfl (Nat.le_of_ble_eq_true rfl) d_M_accepts_88 ⟨Nat.zero_le _, Nat.zero_le _⟩ ?_
      refine lv_if_eq (tgt := 139) hx hb d_M_accepts_91 rfl (fun h91 => ?_) (fun h91 => ?_)
      · skip
        have a1 : acP ar true n 1 = true := acP_n (pairB_f hn (zb_eq (b := pairB ar n 1) h91))
        refine lv_iinc (k := 2) (v := nI (1 + 1)) (lv' := [(6, .int (nI (1 + 1))), (8, .int (nI (ar 17 ((2 * n) + 1)))), (7, .int (nI ((2 * n) + 1))), (5, .int (nI (ar 19 n))), (4, .int (nI (ar 18 n))), (3, .int 1), (0, .ref (am 0)), (1, .int (nI n)), (2, .int (zb true))]) hx hb d_M_accepts_139 hl rfl (nI_1 _) (by decide) rfl (fun ls hl => ?_)
        refine lv_goto (tgt := 47) hx hb d_M_accepts_142 rfl ?_
        have hl : lv_has ls 9 [(6, .int 2), (8, .int (nI (ar 17 ((2 * n) + 1)))), (7, .int (nI ((2 * n) + 1))), (5, .int (nI (ar 19 n))), (4, .int (nI (ar 18 n))), (3, .int 1), (0, .ref (am 0)), (1, .int (nI n)), (2, .int (zb true))] := hl
        refine lv_iload hx hb d_M_accepts_47 (lv_at hl 0 rfl) ?_
        refine lv_iconst (v := 2) hx hb d_M_accepts_49 rfl ?_
        refine lv_icmp_ge (tgt := 145) hx hb d_M_accepts_50 rfl (fun h50 => ?_) (fun h50 => absurd (by decide) h50)
        refine lv_iload_n hx hb d_M_accepts_145 rfl (lv_at hl 5 rfl) ?_
        have hq : acB ar true n = true := by unfold acB; rw [a0, a1]; rfl
        refine zz_as (y := zb (acB ar true n)) (by rw [hq]; rfl) ?_
        exact W.zret hx hb hr (zb_nar _) (fun t ht hW => ⟨rfl, ht⟩) (fun q h => absurd h List.not_mem_nil) d_M_accepts_146
      · skip
        have hp : 0 < ar 11 (2 * n + 1) := (pairB_t (zb_ne (b := pairB ar n 1) h91)).2
        refine lv_iload_n hx hb d_M_accepts_94 rfl (lv_at hl 5 rfl) ?_
        refine lv_if_eq (tgt := 137) hx hb d_M_accepts_95 rfl (fun h95 => absurd h95 (by decide)) (fun h95 => ?_)
        refine lv_aload_n hx hb d_M_accepts_98 rfl (lv_at hl 6 rfl) ?_
        refine mm_get hx hb hts hown hK hP (index := 40) 10 (by decide) mf_M_40 (v := .ref (am 11)) rfl d_M_accepts_99 ?_
        refine lv_iload hx hb d_M_accepts_102 (lv_at hl 1 rfl) ?_
        refine mm_ald hx hb hK hP 10 (by decide) rfl ((2 * n) + 1) rfl (show (2 * n) + 1 < 16 from by omega) (ar 11 ((2 * n) + 1)) (rfl) d_M_accepts_104 ?_
        refine lv_iload hx hb d_M_accepts_105 (lv_at hl 3 rfl) ?_
        refine zz_cS (index := 96) (n := 2) (As := [.int (nI (ar 11 (2 * n + 1))), .int (nI (ar 19 n))]) (rest := []) ⟨hx, hb, hml, hown, hts⟩ (k_raised l (ar 11 (2 * n + 1)) (ar 19 n) (hbs _ (by omega)) (by omega)) mk_M_96 ms_M_raised mi_M mc_M_raised (by decide +kernel) ⟨rfl, rfl⟩ ⟨by decide, by decide⟩ preEq rfl hl.1 rfl (Nat.le_of_ble_eq_true rfl) d_M_accepts_107 ⟨Nat.zero_le _, Nat.zero_le _⟩ ?_
        refine lv_iload hx hb d_M_accepts_110 (lv_at hl 0 rfl) ?_
        refine lv_aload_n hx hb d_M_accepts_112 rfl (lv_at hl 6 rfl) ?_
        refine mm_get hx hb hts hown hK hP (index := 43) 11 (by decide) mf_M_43 (v := .ref (am 12)) rfl d_M_accepts_113 ?_
        refine lv_iload hx hb d_M_accepts_116 (lv_at hl 1 rfl) ?_
        refine mm_ald hx hb hK hP 11 (by decide) rfl ((2 * n) + 1) rfl (show (2 * n) + 1 < 16 from by omega) (ar 12 ((2 * n) + 1)) (rfl) d_M_accepts_118 ?_
        refine lv_iload hx hb d_M_accepts_119 (lv_at hl 4 rfl) ?_
        refine zz_cS (index := 96) (n := 2) (As := [.int (nI (ar 12 (2 * n + 1))), .int (nI (ar 18 n))]) (rest := [.int (nI (ar 17 ((2 * n) + 1))), .int (nI (ar 11 (2 * n + 1) ^ ar 19 n % 10007))]) ⟨hx, hb, hml, hown, hts⟩ (k_raised l (ar 12 (2 * n + 1)) (ar 18 n) (his _ (by omega)) (by omega)) mk_M_96 ms_M_raised mi_M mc_M_raised (by decide +kernel) ⟨rfl, rfl⟩ ⟨by decide, by decide⟩ preEq rfl hl.1 rfl (Nat.le_of_ble_eq_true rfl) d_M_accepts_121 ⟨Nat.zero_le _, Nat.zero_le _⟩ ?_
        refine lv_sipush (v := 10007) hx hb d_M_accepts_124 rfl ?_
        refine zz_cS (index := 92) (n := 3) (As := [.int (nI (ar 17 (2 * n + 1))), .int (nI (ar 12 (2 * n + 1) ^ ar 18 n % 10007)), .int 10007]) (rest := [.int (nI (ar 11 (2 * n + 1) ^ ar 19 n % 10007))]) ⟨hx, hb, hml, hown, hts⟩ (k_times l (ar 17 (2 * n + 1)) (ar 12 (2 * n + 1) ^ ar 18 n % 10007) 10007 (by have := hN8.1 (2 * n + 1) (by omega); omega) (Nat.lt_trans (Nat.mod_lt _ (by decide)) (by decide)) (by decide) (by decide)) mk_M_92 ms_M_times mi_M mc_M_times (by decide +kernel) ⟨rfl, rfl⟩ ⟨by decide, by decide⟩ preEq rfl hl.1 rfl (Nat.le_of_ble_eq_true rfl) d_M_accepts_127 ⟨Nat.zero_le _, Nat.zero_le _⟩ ?_
        refine lv_icmp_ne (tgt := 137) hx hb d_M_accepts_130 rfl (fun h130 => ?_) (fun h130 => ?_)
        · skip
          have a1 : acP ar true n 1 = false := acP_f hp (fun q => h130 (congrArg nI q))
          refine lv_iconst (v := 0) hx hb d_M_accepts_137 rfl ?_
          refine lv_istore_n (lv' := [(3, .int 0), (8, .int (nI (ar 17 ((2 * n) + 1)))), (7, .int (nI ((2 * n) + 1))), (6, .int 1), (5, .int (nI (ar 19 n))), (4, .int (nI (ar 18 n))), (0, .ref (am 0)), (1, .int (nI n)), (2, .int (zb true))]) hx hb d_M_accepts_138 rfl hl (by decide) rfl (fun ls hl => ?_)
          refine lv_iinc (k := 3) (v := nI (1 + 1)) (lv' := [(6, .int (nI (1 + 1))), (3, .int 0), (8, .int (nI (ar 17 ((2 * n) + 1)))), (7, .int (nI ((2 * n) + 1))), (5, .int (nI (ar 19 n))), (4, .int (nI (ar 18 n))), (0, .ref (am 0)), (1, .int (nI n)), (2, .int (zb true))]) hx hb d_M_accepts_139 hl rfl (nI_1 _) (by decide) rfl (fun ls hl => ?_)
          refine lv_goto (tgt := 47) hx hb d_M_accepts_142 rfl ?_
          have hl : lv_has ls 9 [(6, .int 2), (3, .int 0), (8, .int (nI (ar 17 ((2 * n) + 1)))), (7, .int (nI ((2 * n) + 1))), (5, .int (nI (ar 19 n))), (4, .int (nI (ar 18 n))), (0, .ref (am 0)), (1, .int (nI n)), (2, .int (zb true))] := hl
          refine lv_iload hx hb d_M_accepts_47 (lv_at hl 0 rfl) ?_
          refine lv_iconst (v := 2) hx hb d_M_accepts_49 rfl ?_
          refine lv_icmp_ge (tgt := 145) hx hb d_M_accepts_50 rfl (fun h50 => ?_) (fun h50 => absurd (by decide) h50)
          refine lv_iload_n hx hb d_M_accepts_145 rfl (lv_at hl 1 rfl) ?_
          have hq : acB ar true n = false := by unfold acB; first | (rw [a0]; rfl) | (rw [a1, Bool.and_false])
          refine zz_as (y := zb (acB ar true n)) (by rw [hq]; rfl) ?_
          exact W.zret hx hb hr (zb_nar _) (fun t ht hW => ⟨rfl, ht⟩) (fun q h => absurd h List.not_mem_nil) d_M_accepts_146
        · skip
          have a1 : acP ar true n 1 = true := acP_e (zn_eqm.mp h130)
          refine lv_iconst (v := 1) hx hb d_M_accepts_133 rfl ?_
          refine lv_goto (tgt := 138) hx hb d_M_accepts_134 rfl ?_
          refine lv_istore_n (lv' := [(3, .int 1), (8, .int (nI (ar 17 ((2 * n) + 1)))), (7, .int (nI ((2 * n) + 1))), (6, .int 1), (5, .int (nI (ar 19 n))), (4, .int (nI (ar 18 n))), (0, .ref (am 0)), (1, .int (nI n)), (2, .int (zb true))]) hx hb d_M_accepts_138 rfl hl (by decide) rfl (fun ls hl => ?_)
          refine lv_iinc (k := 3) (v := nI (1 + 1)) (lv' := [(6, .int (nI (1 + 1))), (3, .int 1), (8, .int (nI (ar 17 ((2 * n) + 1)))), (7, .int (nI ((2 * n) + 1))), (5, .int (nI (ar 19 n))), (4, .int (nI (ar 18 n))), (0, .ref (am 0)), (1, .int (nI n)), (2, .int (zb true))]) hx hb d_M_accepts_139 hl rfl (nI_1 _) (by decide) rfl (fun ls hl => ?_)
          refine lv_goto (tgt := 47) hx hb d_M_accepts_142 rfl ?_
          have hl : lv_has ls 9 [(6, .int 2), (3, .int 1), (8, .int (nI (ar 17 ((2 * n) + 1)))), (7, .int (nI ((2 * n) + 1))), (5, .int (nI (ar 19 n))), (4, .int (nI (ar 18 n))), (0, .ref (am 0)), (1, .int (nI n)), (2, .int (zb true))] := hl
          refine lv_iload hx hb d_M_accepts_47 (lv_at hl 0 rfl) ?_
          refine lv_iconst (v := 2) hx hb d_M_accepts_49 rfl ?_
          refine lv_icmp_ge (tgt := 145) hx hb d_M_accepts_50 rfl (fun h50 => ?_) (fun h50 => absurd (by decide) h50)
          refine lv_iload_n hx hb d_M_accepts_145 rfl (lv_at hl 1 rfl) ?_
          have hq : acB ar true n = true := by unfold acB; rw [a0, a1]; rfl
          refine zz_as (y := zb (acB ar true n)) (by rw [hq]; rfl) ?_
          exact W.zret hx hb hr (zb_nar _) (fun t ht hW => ⟨rfl, ht⟩) (fun q h => absurd h List.not_mem_nil) d_M_accepts_146
    · skip
      have hp : 0 < ar 11 (2 * n + 0) := (pairB_t (zb_ne (b := pairB ar n 0) h91)).2
      refine lv_iload_n hx hb d_M_accepts_94 rfl (lv_at hl 5 rfl) ?_
      refine lv_if_eq (tgt := 137) hx hb d_M_accepts_95 rfl (fun h95 => absurd h95 (by decide)) (fun h95 => ?_)
      refine lv_aload_n hx hb d_M_accepts_98 rfl (lv_at hl 6 rfl) ?_
      refine mm_get hx hb hts hown hK hP (index := 40) 10 (by decide) mf_M_40 (v := .ref (am 11)) rfl d_M_accepts_99 ?_
      refine lv_iload hx hb d_M_accepts_102 (lv_at hl 1 rfl) ?_
      refine mm_ald hx hb hK hP 10 (by decide) rfl ((2 * n) + 0) rfl (show (2 * n) + 0 < 16 from by omega) (ar 11 ((2 * n) + 0)) (rfl) d_M_accepts_104 ?_
      refine lv_iload hx hb d_M_accepts_105 (lv_at hl 3 rfl) ?_
      refine zz_cS (index := 96) (n := 2) (As := [.int (nI (ar 11 (2 * n + 0))), .int (nI (ar 19 n))]) (rest := []) ⟨hx, hb, hml, hown, hts⟩ (k_raised l (ar 11 (2 * n + 0)) (ar 19 n) (hbs _ (by omega)) (by omega)) mk_M_96 ms_M_raised mi_M mc_M_raised (by decide +kernel) ⟨rfl, rfl⟩ ⟨by decide, by decide⟩ preEq rfl hl.1 rfl (Nat.le_of_ble_eq_true rfl) d_M_accepts_107 ⟨Nat.zero_le _, Nat.zero_le _⟩ ?_
      refine lv_iload hx hb d_M_accepts_110 (lv_at hl 0 rfl) ?_
      refine lv_aload_n hx hb d_M_accepts_112 rfl (lv_at hl 6 rfl) ?_
      refine mm_get hx hb hts hown hK hP (index := 43) 11 (by decide) mf_M_43 (v := .ref (am 12)) rfl d_M_accepts_113 ?_
      refine lv_iload hx hb d_M_accepts_116 (lv_at hl 1 rfl) ?_
      refine mm_ald hx hb hK hP 11 (by decide) rfl ((2 * n) + 0) rfl (show (2 * n) + 0 < 16 from by omega) (ar 12 ((2 * n) + 0)) (rfl) d_M_accepts_118 ?_
      refine lv_iload hx hb d_M_accepts_119 (lv_at hl 4 rfl) ?_
      refine zz_cS (index := 96) (n := 2) (As := [.int (nI (ar 12 (2 * n + 0))), .int (nI (ar 18 n))]) (rest := [.int (nI (ar 17 ((2 * n) + 0))), .int (nI (ar 11 (2 * n + 0) ^ ar 19 n % 10007))]) ⟨hx, hb, hml, hown, hts⟩ (k_raised l (ar 12 (2 * n + 0)) (ar 18 n) (his _ (by omega)) (by omega)) mk_M_96 ms_M_raised mi_M mc_M_raised (by decide +kernel) ⟨rfl, rfl⟩ ⟨by decide, by decide⟩ preEq rfl hl.1 rfl (Nat.le_of_ble_eq_true rfl) d_M_accepts_121 ⟨Nat.zero_le _, Nat.zero_le _⟩ ?_
      refine lv_sipush (v := 10007) hx hb d_M_accepts_124 rfl ?_
      refine zz_cS (index := 92) (n := 3) (As := [.int (nI (ar 17 (2 * n + 0))), .int (nI (ar 12 (2 * n + 0) ^ ar 18 n % 10007)), .int 10007]) (rest := [.int (nI (ar 11 (2 * n + 0) ^ ar 19 n % 10007))]) ⟨hx, hb, hml, hown, hts⟩ (k_times l (ar 17 (2 * n + 0)) (ar 12 (2 * n + 0) ^ ar 18 n % 10007) 10007 (by have := hN8.1 (2 * n + 0) (by omega); omega) (Nat.lt_trans (Nat.mod_lt _ (by decide)) (by decide)) (by decide) (by decide)) mk_M_92 ms_M_times mi_M mc_M_times (by decide +kernel) ⟨rfl, rfl⟩ ⟨by decide, by decide⟩ preEq rfl hl.1 rfl (Nat.le_of_ble_eq_true rfl) d_M_accepts_127 ⟨Nat.zero_le _, Nat.zero_le _⟩ ?_
      refine lv_icmp_ne (tgt := 137) hx hb d_M_accepts_130 rfl (fun h130 => ?_) (fun h130 => ?_)
      · skip
        have a0 : acP ar true n 0 = false := acP_f hp (fun q => h130 (congrArg nI q))
        refine lv_iconst (v := 0) hx hb d_M_accepts_137 rfl ?_
        refine lv_istore_n (lv' := [(3, .int 0), (8, .int (nI (ar 17 ((2 * n) + 0)))), (7, .int (nI ((2 * n) + 0))), (6, .int 0), (5, .int (nI (ar 19 n))), (4, .int (nI (ar 18 n))), (0, .ref (am 0)), (1, .int (nI n)), (2, .int (zb true))]) hx hb d_M_accepts_138 rfl hl (by decide) rfl (fun ls hl => ?_)
        refine lv_iinc (k := 3) (v := nI (0 + 1)) (lv' := [(6, .int (nI (0 + 1))), (3, .int 0), (8, .int (nI (ar 17 ((2 * n) + 0)))), (7, .int (nI ((2 * n) + 0))), (5, .int (nI (ar 19 n))), (4, .int (nI (ar 18 n))), (0, .ref (am 0)), (1, .int (nI n)), (2, .int (zb true))]) hx hb d_M_accepts_139 hl rfl (nI_1 _) (by decide) rfl (fun ls hl => ?_)
        refine lv_goto (tgt := 47) hx hb d_M_accepts_142 rfl ?_
        have hl : lv_has ls 9 [(6, .int 1), (3, .int 0), (8, .int (nI (ar 17 ((2 * n) + 0)))), (7, .int (nI ((2 * n) + 0))), (5, .int (nI (ar 19 n))), (4, .int (nI (ar 18 n))), (0, .ref (am 0)), (1, .int (nI n)), (2, .int (zb true))] := hl
        refine lv_iload hx hb d_M_accepts_47 (lv_at hl 0 rfl) ?_
        refine lv_iconst (v := 2) hx hb d_M_accepts_49 rfl ?_
        refine lv_icmp_ge (tgt := 145) hx hb d_M_accepts_50 rfl (fun h50 => absurd h50 (by decide)) (fun h50 => ?_)
        refine lv_iconst (v := 2) hx hb d_M_accepts_53 rfl ?_
        refine lv_iload_n hx hb d_M_accepts_54 rfl (lv_at hl 7 rfl) ?_
        refine lv_imul hx hb d_M_accepts_55 ?_
        refine zz_as (y := nI (2 * n)) (pk_mul 2 n) ?_
        refine lv_iload hx hb d_M_accepts_56 (lv_at hl 0 rfl) ?_
        refine lv_iadd hx hb d_M_accepts_58 ?_
        refine zz_as (y := nI ((2 * n) + 1)) (nI_add (2 * n) 1) ?_
        refine lv_istore (lv' := [(7, .int (nI ((2 * n) + 1))), (6, .int 1), (3, .int 0), (8, .int (nI (ar 17 ((2 * n) + 0)))), (5, .int (nI (ar 19 n))), (4, .int (nI (ar 18 n))), (0, .ref (am 0)), (1, .int (nI n)), (2, .int (zb true))]) hx hb d_M_accepts_59 hl (by decide) rfl (fun ls hl => ?_)
        refine lv_iload_n hx hb d_M_accepts_61 rfl (lv_at hl 8 rfl) ?_
        refine lv_if_eq (tgt := 75) hx hb d_M_accepts_62 rfl (fun h62 => absurd h62 (by decide)) (fun h62 => ?_)
        refine lv_aload_n hx hb d_M_accepts_65 rfl (lv_at hl 6 rfl) ?_
        refine mm_get hx hb hts hown hK hP (index := 58) 16 (by decide) mf_M_58 (v := .ref (am 17)) rfl d_M_accepts_66 ?_
        refine lv_iload hx hb d_M_accepts_69 (lv_at hl 0 rfl) ?_
        refine mm_ald hx hb hK hP 16 (by decide) rfl ((2 * n) + 1) rfl (show (2 * n) + 1 < 16 from by omega) (ar 17 ((2 * n) + 1)) (rfl) d_M_accepts_71 ?_
        refine lv_goto (tgt := 82) hx hb d_M_accepts_72 rfl ?_
        refine lv_istore (lv' := [(8, .int (nI (ar 17 ((2 * n) + 1)))), (7, .int (nI ((2 * n) + 1))), (6, .int 1), (3, .int 0), (5, .int (nI (ar 19 n))), (4, .int (nI (ar 18 n))), (0, .ref (am 0)), (1, .int (nI n)), (2, .int (zb true))]) hx hb d_M_accepts_82 hl (by decide) rfl (fun ls hl => ?_)
        refine lv_aload_n hx hb d_M_accepts_84 rfl (lv_at hl 6 rfl) ?_
        refine lv_iload_n hx hb d_M_accepts_85 rfl (lv_at hl 7 rfl) ?_
        refine lv_iload hx hb d_M_accepts_86 (lv_at hl 2 rfl) ?_
        refine zz_cV (index := 138) (n := 2) (As := [.int (nI n), .int 1]) (rest := []) ⟨hx, hb, hml, hown, hts⟩ (k_isPairM l D ca am (ar) n 1 (by omega) (by decide) hl2 hbs) mk_M_138 mo_M_isPair me_M_M_isPair_M mi_M mc_M_isPair (by decide +kernel) ⟨rfl, rfl⟩ ⟨by decide, by decide⟩ (mm_pre hK hP) rfl hl.1 rfl (Nat.le_of_ble_eq_true rfl) d_M_accepts_88 ⟨Nat.zero_le _, Nat.zero_le _⟩ ?_
        refine lv_if_eq (tgt := 139) hx hb d_M_accepts_91 rfl (fun h91 => ?_) (fun h91 => ?_)
        · skip
          have a1 : acP ar true n 1 = true := acP_n (pairB_f hn (zb_eq (b := pairB ar n 1) h91))
          refine lv_iinc (k := 2) (v := nI (1 + 1)) (lv' := [(6, .int (nI (1 + 1))), (8, .int (nI (ar 17 ((2 * n) + 1)))), (7, .int (nI ((2 * n) + 1))), (3, .int 0), (5, .int (nI (ar 19 n))), (4, .int (nI (ar 18 n))), (0, .ref (am 0)), (1, .int (nI n)), (2, .int (zb true))]) hx hb d_M_accepts_139 hl rfl (nI_1 _) (by decide) rfl (fun ls hl => ?_)
          refine lv_goto (tgt := 47) hx hb d_M_accepts_142 rfl ?_
          have hl : lv_has ls 9 [(6, .int 2), (8, .int (nI (ar 17 ((2 * n) + 1)))), (7, .int (nI ((2 * n) + 1))), (3, .int 0), (5, .int (nI (ar 19 n))), (4, .int (nI (ar 18 n))), (0, .ref (am 0)), (1, .int (nI n)), (2, .int (zb true))] := hl
          refine lv_iload hx hb d_M_accepts_47 (lv_at hl 0 rfl) ?_
          refine lv_iconst (v := 2) hx hb d_M_accepts_49 rfl ?_
          refine lv_icmp_ge (tgt := 145) hx hb d_M_accepts_50 rfl (fun h50 => ?_) (fun h50 => absurd (by decide) h50)
          refine lv_iload_n hx hb d_M_accepts_145 rfl (lv_at hl 3 rfl) ?_
          have hq : acB ar true n = false := by unfold acB; first | (rw [a0]; rfl) | (rw [a1, Bool.and_false])
          refine zz_as (y := zb (acB ar true n)) (by rw [hq]; rfl) ?_
          exact W.zret hx hb hr (zb_nar _) (fun t ht hW => ⟨rfl, ht⟩) (fun q h => absurd h List.not_mem_nil) d_M_accepts_146
        · skip
          have hp : 0 < ar 11 (2 * n + 1) := (pairB_t (zb_ne (b := pairB ar n 1) h91)).2
          refine lv_iload_n hx hb d_M_accepts_94 rfl (lv_at hl 3 rfl) ?_
          refine lv_if_eq (tgt := 137) hx hb d_M_accepts_95 rfl (fun h95 => ?_) (fun h95 => absurd (rfl) h95)
          refine lv_iconst (v := 0) hx hb d_M_accepts_137 rfl ?_
          refine lv_istore_n (lv' := [(3, .int 0), (8, .int (nI (ar 17 ((2 * n) + 1)))), (7, .int (nI ((2 * n) + 1))), (6, .int 1), (5, .int (nI (ar 19 n))), (4, .int (nI (ar 18 n))), (0, .ref (am 0)), (1, .int (nI n)), (2, .int (zb true))]) hx hb d_M_accepts_138 rfl hl (by decide) rfl (fun ls hl => ?_)
          refine lv_iinc (k := 3) (v := nI (1 + 1)) (lv' := [(6, .int (nI (1 + 1))), (3, .int 0), (8, .int (nI (ar 17 ((2 * n) + 1)))), (7, .int (nI ((2 * n) + 1))), (5, .int (nI (ar 19 n))), (4, .int (nI (ar 18 n))), (0, .ref (am 0)), (1, .int (nI n)), (2, .int (zb true))]) hx hb d_M_accepts_139 hl rfl (nI_1 _) (by decide) rfl (fun ls hl => ?_)
          refine lv_goto (tgt := 47) hx hb d_M_accepts_142 rfl ?_
          have hl : lv_has ls 9 [(6, .int 2), (3, .int 0), (8, .int (nI (ar 17 ((2 * n) + 1)))), (7, .int (nI ((2 * n) + 1))), (5, .int (nI (ar 19 n))), (4, .int (nI (ar 18 n))), (0, .ref (am 0)), (1, .int (nI n)), (2, .int (zb true))] := hl
          refine lv_iload hx hb d_M_accepts_47 (lv_at hl 0 rfl) ?_
          refine lv_iconst (v := 2) hx hb d_M_accepts_49 rfl ?_
          refine lv_icmp_ge (tgt := 145) hx hb d_M_accepts_50 rfl (fun h50 => ?_) (fun h50 => absurd (by decide) h50)
          refine lv_iload_n hx hb d_M_accepts_145 rfl (lv_at hl 1 rfl) ?_
          have hq : acB ar true n = false := by unfold acB; first | (rw [a0]; rfl) | (rw [a1, Bool.and_false])
          refine zz_as (y := zb (acB ar true n)) (by rw [hq]; rfl) ?_
          exact W.zret hx hb hr (zb_nar _) (fun t ht hW => ⟨rfl, ht⟩) (fun q h => absurd h List.not_mem_nil) d_M_accepts_146
      · skip
        have a0 : acP ar true n 0 = true := acP_e (zn_eqm.mp h130)
        refine lv_iconst (v := 1) hx hb d_M_accepts_133 rfl ?_
        refine lv_goto (tgt := 138) hx hb d_M_accepts_134 rfl ?_
        refine lv_istore_n (lv' := [(3, .int 1), (8, .int (nI (ar 17 ((2 * n) + 0)))), (7, .int (nI ((2 * n) + 0))), (6, .int 0), (5, .int (nI (ar 19 n))), (4, .int (nI (ar 18 n))), (0, .ref (am 0)), (1, .int (nI n)), (2, .int (zb true))]) hx hb d_M_accepts_138 rfl hl (by decide) rfl (fun ls hl => ?_)
        refine lv_iinc (k := 3) (v := nI (0 + 1)) (lv' := [(6, .int (nI (0 + 1))), (3, .int 1), (8, .int (nI (ar 17 ((2 * n) + 0)))), (7, .int (nI ((2 * n) + 0))), (5, .int (nI (ar 19 n))), (4, .int (nI (ar 18 n))), (0, .ref (am 0)), (1, .int (nI n)), (2, .int (zb true))]) hx hb d_M_accepts_139 hl rfl (nI_1 _) (by decide) rfl (fun ls hl => ?_)
        refine lv_goto (tgt := 47) hx hb d_M_accepts_142 rfl ?_
        have hl : lv_has ls 9 [(6, .int 1), (3, .int 1), (8, .int (nI (ar 17 ((2 * n) + 0)))), (7, .int (nI ((2 * n) + 0))), (5, .int (nI (ar 19 n))), (4, .int (nI (ar 18 n))), (0, .ref (am 0)), (1, .int (nI n)), (2, .int (zb true))] := hl
        refine lv_iload hx hb d_M_accepts_47 (lv_at hl 0 rfl) ?_
        refine lv_iconst (v := 2) hx hb d_M_accepts_49 rfl ?_
        refine lv_icmp_ge (tgt := 145) hx hb d_M_accepts_50 rfl (fun h50 => absurd h50 (by decide)) (fun h50 => ?_)
        refine lv_iconst (v := 2) hx hb d_M_accepts_53 rfl ?_
        refine lv_iload_n hx hb d_M_accepts_54 rfl (lv_at hl 7 rfl) ?_
        refine lv_imul hx hb d_M_accepts_55 ?_
        refine zz_as (y := nI (2 * n)) (pk_mul 2 n) ?_
        refine lv_iload hx hb d_M_accepts_56 (lv_at hl 0 rfl) ?_
        refine lv_iadd hx hb d_M_accepts_58 ?_
        refine zz_as (y := nI ((2 * n) + 1)) (nI_add (2 * n) 1) ?_
        refine lv_istore (lv' := [(7, .int (nI ((2 * n) + 1))), (6, .int 1), (3, .int 1), (8, .int (nI (ar 17 ((2 * n) + 0)))), (5, .int (nI (ar 19 n))), (4, .int (nI (ar 18 n))), (0, .ref (am 0)), (1, .int (nI n)), (2, .int (zb true))]) hx hb d_M_accepts_59 hl (by decide) rfl (fun ls hl => ?_)
        refine lv_iload_n hx hb d_M_accepts_61 rfl (lv_at hl 8 rfl) ?_
        refine lv_if_eq (tgt := 75) hx hb d_M_accepts_62 rfl (fun h62 => absurd h62 (by decide)) (fun h62 => ?_)
        refine lv_aload_n hx hb d_M_accepts_65 rfl (lv_at hl 6 rfl) ?_
        refine mm_get hx hb hts hown hK hP (index := 58) 16 (by decide) mf_M_58 (v := .ref (am 17)) rfl d_M_accepts_66 ?_
        refine lv_iload hx hb d_M_accepts_69 (lv_at hl 0 rfl) ?_
        refine mm_ald hx hb hK hP 16 (by decide) rfl ((2 * n) + 1) rfl (show (2 * n) + 1 < 16 from by omega) (ar 17 ((2 * n) + 1)) (rfl) d_M_accepts_71 ?_
        refine lv_goto (tgt := 82) hx hb d_M_accepts_72 rfl ?_
        refine lv_istore (lv' := [(8, .int (nI (ar 17 ((2 * n) + 1)))), (7, .int (nI ((2 * n) + 1))), (6, .int 1), (3, .int 1), (5, .int (nI (ar 19 n))), (4, .int (nI (ar 18 n))), (0, .ref (am 0)), (1, .int (nI n)), (2, .int (zb true))]) hx hb d_M_accepts_82 hl (by decide) rfl (fun ls hl => ?_)
        refine lv_aload_n hx hb d_M_accepts_84 rfl (lv_at hl 6 rfl) ?_
        refine lv_iload_n hx hb d_M_accepts_85 rfl (lv_at hl 7 rfl) ?_
        refine lv_iload hx hb d_M_accepts_86 (lv_at hl 2 rfl) ?_
        refine zz_cV (index := 138) (n := 2) (As := [.int (nI n), .int 1]) (rest := []) ⟨hx, hb, hml, hown, hts⟩ (k_isPairM l D ca am (ar) n 1 (by omega) (by decide) hl2 hbs) mk_M_138 mo_M_isPair me_M_M_isPair_M mi_M mc_M_isPair (by decide +kernel) ⟨rfl, rfl⟩ ⟨by decide, by decide⟩ (mm_pre hK hP) rfl hl.1 rfl (Nat.le_of_ble_eq_true rfl) d_M_accepts_88 ⟨Nat.zero_le _, Nat.zero_le _⟩ ?_
        refine lv_if_eq (tgt := 139) hx hb d_M_accepts_91 rfl (fun h91 => ?_) (fun h91 => ?_)
        · skip
          have a1 : acP ar true n 1 = true := acP_n (pairB_f hn (zb_eq (b := pairB ar n 1) h91))
          refine lv_iinc (k := 2) (v := nI (1 + 1)) (lv' := [(6, .int (nI (1 + 1))), (8, .int (nI (ar 17 ((2 * n) + 1)))), (7, .int (nI ((2 * n) + 1))), (3, .int 1), (5, .int (nI (ar 19 n))), (4, .int (nI (ar 18 n))), (0, .ref (am 0)), (1, .int (nI n)), (2, .int (zb true))]) hx hb d_M_accepts_139 hl rfl (nI_1 _) (by decide) rfl (fun ls hl => ?_)
          refine lv_goto (tgt := 47) hx hb d_M_accepts_142 rfl ?_
          have hl : lv_has ls 9 [(6, .int 2), (8, .int (nI (ar 17 ((2 * n) + 1)))), (7, .int (nI ((2 * n) + 1))), (3, .int 1), (5, .int (nI (ar 19 n))), (4, .int (nI (ar 18 n))), (0, .ref (am 0)), (1, .int (nI n)), (2, .int (zb true))] := hl
          refine lv_iload hx hb d_M_accepts_47 (lv_at hl 0 rfl) ?_
          refine lv_iconst (v := 2) hx hb d_M_accepts_49 rfl ?_
          refine lv_icmp_ge (tgt := 145) hx hb d_M_accepts_50 rfl (fun h50 => ?_) (fun h50 => absurd (by decide) h50)
          refine lv_iload_n hx hb d_M_accepts_145 rfl (lv_at hl 3 rfl) ?_
          have hq : acB ar true n = true := by unfold acB; rw [a0, a1]; rfl
          refine zz_as (y := zb (acB ar true n)) (by rw [hq]; rfl) ?_
          exact W.zret hx hb hr (zb_nar _) (fun t ht hW => ⟨rfl, ht⟩) (fun q h => absurd h List.not_mem_nil) d_M_accepts_146
        · skip
          have hp : 0 < ar 11 (2 * n + 1) := (pairB_t (zb_ne (b := pairB ar n 1) h91)).2
          refine lv_iload_n hx hb d_M_accepts_94 rfl (lv_at hl 3 rfl) ?_
          refine lv_if_eq (tgt := 137) hx hb d_M_accepts_95 rfl (fun h95 => absurd h95 (by decide)) (fun h95 => ?_)
          refine lv_aload_n hx hb d_M_accepts_98 rfl (lv_at hl 6 rfl) ?_
          refine mm_get hx hb hts hown hK hP (index := 40) 10 (by decide) mf_M_40 (v := .ref (am 11)) rfl d_M_accepts_99 ?_
          refine lv_iload hx hb d_M_accepts_102 (lv_at hl 1 rfl) ?_
          refine mm_ald hx hb hK hP 10 (by decide) rfl ((2 * n) + 1) rfl (show (2 * n) + 1 < 16 from by omega) (ar 11 ((2 * n) + 1)) (rfl) d_M_accepts_104 ?_
          refine lv_iload hx hb d_M_accepts_105 (lv_at hl 4 rfl) ?_
          refine zz_cS (index := 96) (n := 2) (As := [.int (nI (ar 11 (2 * n + 1))), .int (nI (ar 19 n))]) (rest := []) ⟨hx, hb, hml, hown, hts⟩ (k_raised l (ar 11 (2 * n + 1)) (ar 19 n) (hbs _ (by omega)) (by omega)) mk_M_96 ms_M_raised mi_M mc_M_raised (by decide +kernel) ⟨rfl, rfl⟩ ⟨by decide, by decide⟩ preEq rfl hl.1 rfl (Nat.le_of_ble_eq_true rfl) d_M_accepts_107 ⟨Nat.zero_le _, Nat.zero_le _⟩ ?_
          refine lv_iload hx hb d_M_accepts_110 (lv_at hl 0 rfl) ?_
          refine lv_aload_n hx hb d_M_accepts_112 rfl (lv_at hl 6 rfl) ?_
          refine mm_get hx hb hts hown hK hP (index := 43) 11 (by decide) mf_M_43 (v := .ref (am 12)) rfl d_M_accepts_113 ?_
          refine lv_iload hx hb d_M_accepts_116 (lv_at hl 1 rfl) ?_
          refine mm_ald hx hb hK hP 11 (by decide) rfl ((2 * n) + 1) rfl (show (2 * n) + 1 < 16 from by omega) (ar 12 ((2 * n) + 1)) (rfl) d_M_accepts_118 ?_
          refine lv_iload hx hb d_M_accepts_119 (lv_at hl 5 rfl) ?_
          refine zz_cS (index := 96) (n := 2) (As := [.int (nI (ar 12 (2 * n + 1))), .int (nI (ar 18 n))]) (rest := [.int (nI (ar 17 ((2 * n) + 1))), .int (nI (ar 11 (2 * n + 1) ^ ar 19 n % 10007))]) ⟨hx, hb, hml, hown, hts⟩ (k_raised l (ar 12 (2 * n + 1)) (ar 18 n) (his _ (by omega)) (by omega)) mk_M_96 ms_M_raised mi_M mc_M_raised (by decide +kernel) ⟨rfl, rfl⟩ ⟨by decide, by decide⟩ preEq rfl hl.1 rfl (Nat.le_of_ble_eq_true rfl) d_M_accepts_121 ⟨Nat.zero_le _, Nat.zero_le _⟩ ?_
          refine lv_sipush (v := 10007) hx hb d_M_accepts_124 rfl ?_
          refine zz_cS (index := 92) (n := 3) (As := [.int (nI (ar 17 (2 * n + 1))), .int (nI (ar 12 (2 * n + 1) ^ ar 18 n % 10007)), .int 10007]) (rest := [.int (nI (ar 11 (2 * n + 1) ^ ar 19 n % 10007))]) ⟨hx, hb, hml, hown, hts⟩ (k_times l (ar 17 (2 * n + 1)) (ar 12 (2 * n + 1) ^ ar 18 n % 10007) 10007 (by have := hN8.1 (2 * n + 1) (by omega); omega) (Nat.lt_trans (Nat.mod_lt _ (by decide)) (by decide)) (by decide) (by decide)) mk_M_92 ms_M_times mi_M mc_M_times (by decide +kernel) ⟨rfl, rfl⟩ ⟨by decide, by decide⟩ preEq rfl hl.1 rfl (Nat.le_of_ble_eq_true rfl) d_M_accepts_127 ⟨Nat.zero_le _, Nat.zero_le _⟩ ?_
          refine lv_icmp_ne (tgt := 137) hx hb d_M_accepts_130 rfl (fun h130 => ?_) (fun h130 => ?_)
          · skip
            have a1 : acP ar true n 1 = false := acP_f hp (fun q => h130 (congrArg nI q))
            refine lv_iconst (v := 0) hx hb d_M_accepts_137 rfl ?_
            refine lv_istore_n (lv' := [(3, .int 0), (8, .int (nI (ar 17 ((2 * n) + 1)))), (7, .int (nI ((2 * n) + 1))), (6, .int 1), (5, .int (nI (ar 19 n))), (4, .int (nI (ar 18 n))), (0, .ref (am 0)), (1, .int (nI n)), (2, .int (zb true))]) hx hb d_M_accepts_138 rfl hl (by decide) rfl (fun ls hl => ?_)
            refine lv_iinc (k := 3) (v := nI (1 + 1)) (lv' := [(6, .int (nI (1 + 1))), (3, .int 0), (8, .int (nI (ar 17 ((2 * n) + 1)))), (7, .int (nI ((2 * n) + 1))), (5, .int (nI (ar 19 n))), (4, .int (nI (ar 18 n))), (0, .ref (am 0)), (1, .int (nI n)), (2, .int (zb true))]) hx hb d_M_accepts_139 hl rfl (nI_1 _) (by decide) rfl (fun ls hl => ?_)
            refine lv_goto (tgt := 47) hx hb d_M_accepts_142 rfl ?_
            have hl : lv_has ls 9 [(6, .int 2), (3, .int 0), (8, .int (nI (ar 17 ((2 * n) + 1)))), (7, .int (nI ((2 * n) + 1))), (5, .int (nI (ar 19 n))), (4, .int (nI (ar 18 n))), (0, .ref (am 0)), (1, .int (nI n)), (2, .int (zb true))] := hl
            refine lv_iload hx hb d_M_accepts_47 (lv_at hl 0 rfl) ?_
            refine lv_iconst (v := 2) hx hb d_M_accepts_49 rfl ?_
            refine lv_icmp_ge (tgt := 145) hx hb d_M_accepts_50 rfl (fun h50 => ?_) (fun h50 => absurd (by decide) h50)
            refine lv_iload_n hx hb d_M_accepts_145 rfl (lv_at hl 1 rfl) ?_
            have hq : acB ar true n = false := by unfold acB; first | (rw [a0]; rfl) | (rw [a1, Bool.and_false])
            refine zz_as (y := zb (acB ar true n)) (by rw [hq]; rfl) ?_
            exact W.zret hx hb hr (zb_nar _) (fun t ht hW => ⟨rfl, ht⟩) (fun q h => absurd h List.not_mem_nil) d_M_accepts_146
          · skip
            have a1 : acP ar true n 1 = true := acP_e (zn_eqm.mp h130)
            refine lv_iconst (v := 1) hx hb d_M_accepts_133 rfl ?_
            refine lv_goto (tgt := 138) hx hb d_M_accepts_134 rfl ?_
            refine lv_istore_n (lv' := [(3, .int 1), (8, .int (nI (ar 17 ((2 * n) + 1)))), (7, .int (nI ((2 * n) + 1))), (6, .int 1), (5, .int (nI (ar 19 n))), (4, .int (nI (ar 18 n))), (0, .ref (am 0)), (1, .int (nI n)), (2, .int (zb true))]) hx hb d_M_accepts_138 rfl hl (by decide) rfl (fun ls hl => ?_)
            refine lv_iinc (k := 3) (v := nI (1 + 1)) (lv' := [(6, .int (nI (1 + 1))), (3, .int 1), (8, .int (nI (ar 17 ((2 * n) + 1)))), (7, .int (nI ((2 * n) + 1))), (5, .int (nI (ar 19 n))), (4, .int (nI (ar 18 n))), (0, .ref (am 0)), (1, .int (nI n)), (2, .int (zb true))]) hx hb d_M_accepts_139 hl rfl (nI_1 _) (by decide) rfl (fun ls hl => ?_)
            refine lv_goto (tgt := 47) hx hb d_M_accepts_142 rfl ?_
            have hl : lv_has ls 9 [(6, .int 2), (3, .int 1), (8, .int (nI (ar 17 ((2 * n) + 1)))), (7, .int (nI ((2 * n) + 1))), (5, .int (nI (ar 19 n))), (4, .int (nI (ar 18 n))), (0, .ref (am 0)), (1, .int (nI n)), (2, .int (zb true))] := hl
            refine lv_iload hx hb d_M_accepts_47 (lv_at hl 0 rfl) ?_
            refine lv_iconst (v := 2) hx hb d_M_accepts_49 rfl ?_
            refine lv_icmp_ge (tgt := 145) hx hb d_M_accepts_50 rfl (fun h50 => ?_) (fun h50 => absurd (by decide) h50)
            refine lv_iload_n hx hb d_M_accepts_145 rfl (lv_at hl 1 rfl) ?_
            have hq : acB ar true n = true := by unfold acB; rw [a0, a1]; rfl
            refine zz_as (y := zb (acB ar true n)) (by rw [hq]; rfl) ?_
            exact W.zret hx hb hr (zb_nar _) (fun t ht hW => ⟨rfl, ht⟩) (fun q h => absurd h List.not_mem_nil) d_M_accepts_146
end
section
/-! the model's isAccepted, verify, challenge, save, sameCommitments, extract -/
def accP (ar : Nat → Nat → Nat) (old b : Bool) : Prop := ∃ h : Nat → Nat, vOK ar (cR old) h (ar 0 1) ∧ vB h (ar 0 1) ∧ b = (decide (h (ar 0 1 - 1) < 2147483648) && acAll ar old (ar 0 2))
theorem acB_up (ar : Nat → Nat → Nat) (h : Nat → Nat) (old : Bool) (n : Nat) : acB (va_up ar 26 h) old n = acB ar old n := by cases old <;> rfl
theorem zs_upn (ar : Nat → Nat → Nat) {i j : Nat} (h : Nat → Nat) (k v : Nat) (hij : j ≠ i) : zs (va_up ar i h) j k v = va_up (zs ar j k v) i h := by
  funext q
  by_cases e : q = i
  · subst e; rw [va_up_self, zs_row _ _ _ (Ne.symm hij), va_up_self]
  · rw [va_up_ne _ _ e]
    unfold zs
    by_cases e2 : q = j
    · subst e2; rw [va_up_self, va_up_self, va_up_ne _ _ e]
    · rw [va_up_ne _ _ e2, va_up_ne _ _ e2, va_up_ne _ _ e]
def smB (ar : Nat → Nat → Nat) (n : Nat) : Bool := decide (ar 14 (2 * n) = ar 17 (2 * n)) && (!decide (0 < ar 11 (2 * n + 1)) || decide (ar 14 (2 * n + 1) = ar 17 (2 * n + 1)))
def smAll (ar : Nat → Nat → Nat) : Nat → Bool
  | 0 => true
  | n + 1 => smAll ar n && smB ar n
def exV (ar : Nat → Nat → Nat) (n : Nat) : Nat := ls5 (ar 16 n) (ar 19 n) * (ls5 (ar 15 n) (ar 18 n) ^ 5001 % 5003) % 5003
def exR (ar : Nat → Nat → Nat) : Nat → Nat → Nat
  | 0 => ar 13
  | n + 1 => if ls5 (ar 15 n) (ar 18 n) = 0 then exR ar n else va_up (exR ar n) n (exV ar n)
def exN (ar : Nat → Nat → Nat) : Nat → Nat
  | 0 => 0
  | n + 1 => if ls5 (ar 15 n) (ar 18 n) = 0 then exN ar n else exN ar n + 1
theorem exN_le (ar : Nat → Nat → Nat) : ∀ n, exN ar n ≤ n := by
  intro n
  induction n with
  | zero => exact Nat.le_refl _
  | succ n ih => unfold exN; split <;> omega

theorem d_M_isAccepted_0 : decode c_M_isAccepted 0 = .ok (.aload_n 0, 1) := by decide +kernel
theorem d_M_isAccepted_1 : decode c_M_isAccepted 1 = .ok (.iload_n 1, 1) := by decide +kernel
theorem d_M_isAccepted_2 : decode c_M_isAccepted 2 = .ok (.invokevirtual 189, 3) := by decide +kernel
theorem d_M_isAccepted_5 : decode c_M_isAccepted 5 = .ok (.ifCond .lt 7, 3) := by decide +kernel
theorem d_M_isAccepted_8 : decode c_M_isAccepted 8 = .ok (.iconst 1, 1) := by decide +kernel
theorem d_M_isAccepted_9 : decode c_M_isAccepted 9 = .ok (.goto 4, 3) := by decide +kernel
theorem d_M_isAccepted_12 : decode c_M_isAccepted 12 = .ok (.iconst 0, 1) := by decide +kernel
theorem d_M_isAccepted_13 : decode c_M_isAccepted 13 = .ok (.istore_n 2, 1) := by decide +kernel
theorem d_M_isAccepted_14 : decode c_M_isAccepted 14 = .ok (.iconst 0, 1) := by decide +kernel
theorem d_M_isAccepted_15 : decode c_M_isAccepted 15 = .ok (.istore_n 3, 1) := by decide +kernel
theorem d_M_isAccepted_16 : decode c_M_isAccepted 16 = .ok (.iload_n 3, 1) := by decide +kernel
theorem d_M_isAccepted_17 : decode c_M_isAccepted 17 = .ok (.aload_n 0, 1) := by decide +kernel
theorem d_M_isAccepted_18 : decode c_M_isAccepted 18 = .ok (.getfield 125, 3) := by decide +kernel
theorem d_M_isAccepted_21 : decode c_M_isAccepted 21 = .ok (.if_icmp .ge 28, 3) := by decide +kernel
theorem d_M_isAccepted_24 : decode c_M_isAccepted 24 = .ok (.iload_n 2, 1) := by decide +kernel
theorem d_M_isAccepted_25 : decode c_M_isAccepted 25 = .ok (.ifCond .eq 16, 3) := by decide +kernel
theorem d_M_isAccepted_28 : decode c_M_isAccepted 28 = .ok (.aload_n 0, 1) := by decide +kernel
theorem d_M_isAccepted_29 : decode c_M_isAccepted 29 = .ok (.iload_n 3, 1) := by decide +kernel
theorem d_M_isAccepted_30 : decode c_M_isAccepted 30 = .ok (.iload_n 1, 1) := by decide +kernel
theorem d_M_isAccepted_31 : decode c_M_isAccepted 31 = .ok (.invokevirtual 193, 3) := by decide +kernel
theorem d_M_isAccepted_34 : decode c_M_isAccepted 34 = .ok (.ifCond .eq 7, 3) := by decide +kernel
theorem d_M_isAccepted_37 : decode c_M_isAccepted 37 = .ok (.iconst 1, 1) := by decide +kernel
theorem d_M_isAccepted_38 : decode c_M_isAccepted 38 = .ok (.goto 4, 3) := by decide +kernel
theorem d_M_isAccepted_41 : decode c_M_isAccepted 41 = .ok (.iconst 0, 1) := by decide +kernel
theorem d_M_isAccepted_42 : decode c_M_isAccepted 42 = .ok (.istore_n 2, 1) := by decide +kernel
theorem d_M_isAccepted_43 : decode c_M_isAccepted 43 = .ok (.iinc 3 1, 3) := by decide +kernel
theorem d_M_isAccepted_46 : decode c_M_isAccepted 46 = .ok (.goto (-30), 3) := by decide +kernel
theorem d_M_isAccepted_49 : decode c_M_isAccepted 49 = .ok (.iload_n 2, 1) := by decide +kernel
theorem d_M_isAccepted_50 : decode c_M_isAccepted 50 = .ok (.ireturn, 1) := by decide +kernel

section MA
variable {p : Program} {l : Launch} {e : Env} {R : Room} {s : State} {m : MethodId} {args : Array Value} {below : List Frame} {meth : Method} {c : Code} {H0 : Heap} {cells slots : Nat} {Q : State → Prop} {A : Nat → Prop} {D : va_G} {ca : Nat → ClassId} {am : Nat → Nat} {ar : Nat → Nat → Nat}
set_option maxHeartbeats 4000000 in
set_option maxRecDepth 100000 in
theorem isAcc_loop (hx : p.tables.exec = Jvm.exec) (hb : c.code = c_M_isAccepted) (hml : c.maxLocals = 4) (hown : s.vm.findClass R_M = some m.cls) (hts : ∀ w ∈ zT, w.before args s = true) (hK : va_K D zC (zty ca) s) (hD : zD A 28 am) (hI : mI am) (hAA : ∀ q, mA am q → A q) (hRf : 4 ≤ R.frames) (hRl : 160 ≤ R.locals) (hc : cells ≤ R.cells) (hsl : slots ≤ R.slots) (old g0 : Bool) {h : Nat → Nat} (hl2 : ar 0 2 ≤ 8) (hN8 : tN ar) (hbs : ∀ i, i < 16 → ar 11 i < 10007) (his : ∀ i, i < 16 → ar 12 i < 10007) {H : Heap} {locs : List Loc} (hP : va_P D zC (zl 28 am (mct ca am (va_up ar 26 h))) H) (kk : ∀ (ls : Array Slot), lv_has ls 4 [(2, .int (zb (g0 && acAll ar old (ar 0 2))))] → W p l e R s m args below meth c H locs cells slots Q (F0 m 49 ls [])) : ∀ (j k : Nat), k + j = ar 0 2 → ∀ (ls : Array Slot), lv_has ls 4 [(3, .int (nI k)), (2, .int (zb (g0 && acAll ar old k))), (1, .int (zb old)), (0, .ref (am 0))] → W p l e R s m args below meth c H locs cells slots Q (F0 m 16 ls []) := by
  intro j
  induction j with
  | zero =>
    intro k hk ls hl
    obtain rfl : k = ar 0 2 := by omega
    refine lv_iload_n hx hb d_M_isAccepted_16 rfl (lv_at hl 0 rfl) ?_
    refine lv_aload_n hx hb d_M_isAccepted_17 rfl (lv_at hl 3 rfl) ?_
    refine mm_get hx hb hts hown hK hP (index := 125) 29 (by decide) mf_M_125 (v := .int (nI (ar 0 2))) rfl d_M_isAccepted_18 ?_
    refine lv_icmp_ge (tgt := 49) hx hb d_M_isAccepted_21 rfl (fun h21 => ?_) (fun h21 => absurd (Int32.le_refl _) h21)
    have hl := lv_sub (l' := [(2, .int (zb (g0 && acAll ar old (ar 0 2))))]) hl [1] rfl
    exact kk ls hl
  | succ j ih =>
    intro k hk ls hl
    have hN : k < ar 0 2 := by omega
    refine lv_iload_n hx hb d_M_isAccepted_16 rfl (lv_at hl 0 rfl) ?_
    refine lv_aload_n hx hb d_M_isAccepted_17 rfl (lv_at hl 3 rfl) ?_
    refine mm_get hx hb hts hown hK hP (index := 125) 29 (by decide) mf_M_125 (v := .int (nI (ar 0 2))) rfl d_M_isAccepted_18 ?_
    refine lv_icmp_ge (tgt := 49) hx hb d_M_isAccepted_21 rfl (fun h21 => absurd h21 (nI_ge hN (by omega))) (fun h21 => ?_)
    refine lv_iload_n hx hb d_M_isAccepted_24 rfl (lv_at hl 1 rfl) ?_
    refine lv_if_eq (tgt := 41) hx hb d_M_isAccepted_25 rfl (fun h25 => ?_) (fun h25 => ?_)
    · skip
      have hq : (g0 && acAll ar old (k + 1)) = false := by show (g0 && (acAll ar old k && acB ar old k)) = false; rw [← Bool.and_assoc, zb_eq h25, Bool.false_and]
      refine lv_iconst (v := 0) hx hb d_M_isAccepted_41 rfl ?_
      refine lv_istore_n (lv' := [(2, .int 0), (3, .int (nI k)), (1, .int (zb old)), (0, .ref (am 0))]) hx hb d_M_isAccepted_42 rfl hl (by decide) rfl (fun ls hl => ?_)
      have hl : lv_has ls 4 [(2, .int (zb (g0 && acAll ar old (k + 1)))), (3, .int (nI k)), (1, .int (zb old)), (0, .ref (am 0))] := by rw [hq]; exact hl
      refine lv_iinc (k := 1) (v := nI (k + 1)) (lv' := [(3, .int (nI (k + 1))), (2, .int (zb (g0 && acAll ar old (k + 1)))), (1, .int (zb old)), (0, .ref (am 0))]) hx hb d_M_isAccepted_43 hl rfl (nI_1 _) (by decide) rfl (fun ls hl => ?_)
      refine lv_goto (tgt := 16) hx hb d_M_isAccepted_46 rfl ?_
      have hl := lv_sub (l' := [(3, .int (nI (k + 1))), (2, .int (zb (g0 && acAll ar old (k + 1)))), (1, .int (zb old)), (0, .ref (am 0))]) hl [0, 1, 2, 3] rfl
      exact ih (k + 1) (by omega) ls hl
    · skip
      refine lv_aload_n hx hb d_M_isAccepted_28 rfl (lv_at hl 3 rfl) ?_
      refine lv_iload_n hx hb d_M_isAccepted_29 rfl (lv_at hl 0 rfl) ?_
      refine lv_iload_n hx hb d_M_isAccepted_30 rfl (lv_at hl 2 rfl) ?_
      refine zz_cV (index := 193) (n := 2) (As := [.int (nI k), .int (zb old)]) (rest := []) ⟨hx, hb, hml, hown, hts⟩ (k_acceptsM l D ca am (va_up ar 26 h) k old hN hl2 hN8 hbs his) mk_M_193 mo_M_accepts me_M_M_accepts_M mi_M mc_M_accepts (by decide +kernel) ⟨rfl, rfl⟩ ⟨Nat.le_trans (by decide) hRf, Nat.le_trans (by decide) hRl⟩ (mm_pre hK hP) rfl hl.1 rfl (Nat.le_of_ble_eq_true rfl) d_M_isAccepted_31 ⟨hc, hsl⟩ ?_
      refine zz_as (y := zb (acB ar old k)) (congrArg zb (acB_up ..)) ?_
      refine lv_if_eq (tgt := 41) hx hb d_M_isAccepted_34 rfl (fun h34 => ?_) (fun h34 => ?_)
      · skip
        have hq : (g0 && acAll ar old (k + 1)) = false := by show (g0 && (acAll ar old k && acB ar old k)) = false; rw [zb_eq h34, Bool.and_false, Bool.and_false]
        refine lv_iconst (v := 0) hx hb d_M_isAccepted_41 rfl ?_
        refine lv_istore_n (lv' := [(2, .int 0), (3, .int (nI k)), (1, .int (zb old)), (0, .ref (am 0))]) hx hb d_M_isAccepted_42 rfl hl (by decide) rfl (fun ls hl => ?_)
        have hl : lv_has ls 4 [(2, .int (zb (g0 && acAll ar old (k + 1)))), (3, .int (nI k)), (1, .int (zb old)), (0, .ref (am 0))] := by rw [hq]; exact hl
        refine lv_iinc (k := 1) (v := nI (k + 1)) (lv' := [(3, .int (nI (k + 1))), (2, .int (zb (g0 && acAll ar old (k + 1)))), (1, .int (zb old)), (0, .ref (am 0))]) hx hb d_M_isAccepted_43 hl rfl (nI_1 _) (by decide) rfl (fun ls hl => ?_)
        refine lv_goto (tgt := 16) hx hb d_M_isAccepted_46 rfl ?_
        have hl := lv_sub (l' := [(3, .int (nI (k + 1))), (2, .int (zb (g0 && acAll ar old (k + 1)))), (1, .int (zb old)), (0, .ref (am 0))]) hl [0, 1, 2, 3] rfl
        exact ih (k + 1) (by omega) ls hl
      · skip
        have hq : (g0 && acAll ar old (k + 1)) = true := by show (g0 && (acAll ar old k && acB ar old k)) = true; rw [← Bool.and_assoc, zb_ne h25, zb_ne h34]; rfl
        refine lv_iconst (v := 1) hx hb d_M_isAccepted_37 rfl ?_
        refine lv_goto (tgt := 42) hx hb d_M_isAccepted_38 rfl ?_
        refine lv_istore_n (lv' := [(2, .int 1), (3, .int (nI k)), (1, .int (zb old)), (0, .ref (am 0))]) hx hb d_M_isAccepted_42 rfl hl (by decide) rfl (fun ls hl => ?_)
        have hl : lv_has ls 4 [(2, .int (zb (g0 && acAll ar old (k + 1)))), (3, .int (nI k)), (1, .int (zb old)), (0, .ref (am 0))] := by rw [hq]; exact hl
        refine lv_iinc (k := 1) (v := nI (k + 1)) (lv' := [(3, .int (nI (k + 1))), (2, .int (zb (g0 && acAll ar old (k + 1)))), (1, .int (zb old)), (0, .ref (am 0))]) hx hb d_M_isAccepted_43 hl rfl (nI_1 _) (by decide) rfl (fun ls hl => ?_)
        refine lv_goto (tgt := 16) hx hb d_M_isAccepted_46 rfl ?_
        have hl := lv_sub (l' := [(3, .int (nI (k + 1))), (2, .int (zb (g0 && acAll ar old (k + 1)))), (1, .int (zb old)), (0, .ref (am 0))]) hl [0, 1, 2, 3] rfl
        exact ih (k + 1) (by omega) ls hl
end MA

set_option maxHeartbeats 4000000 in
set_option maxRecDepth 100000 in
/-- isAccepted(old) -/
theorem k_isAcceptedM (l : Launch) (D : va_G) (ca : Nat → ClassId) (am : Nat → Nat) (ar : Nat → Nat → Nat) (hI : mI am) (old : Bool) (hT : tT ar) (hN8 : tN ar) (hsz : 0 < ar 0 1) (hbs : ∀ i, i < 16 → ar 11 i < 10007) (his : ∀ i, i < 16 → ar 12 i < 10007) : Met l y_M_isAccepted (Cond.code y_M_isAccepted c_M_isAccepted 4 (some .boolean) :: zT) ({ frames := 4, cells := 0, slots := 0, locals := 160 }) (va_Pc [.ref (am 0), .int (zb old)] (mw D ca am ar)) (va_Qi (fun r ar1 => ∃ (h : Nat → Nat) (b : Bool), accP ar old b ∧ ar1 = va_up ar 26 h ∧ r = zb b) (mw D ca am) (mA am)) 0 0 (mA am) := by
  refine Met.ofW (cc := c_M_isAccepted) (maxL := 4) (ret := (some .boolean)) (by decide) rfl ?_
  intro p e s m args below meth c s₁ B hml hv
  obtain ⟨rfl, hK, hP⟩ := hv
  have hx := B.exec
  have hb := B.bytes
  have hr := B.returns
  have hts0 := atoms_spec (ws := Cond.code y_M_isAccepted c_M_isAccepted 4 (some .boolean) :: zT) B.pre
  have hts := fun w h => hts0 w (List.mem_cons_of_mem _ h)
  have hown : s.vm.findClass R_M = some m.cls := findClass_of_methodNamed B.named
  have hlocks := B.notSynchronized
  have hD := mI_D hI
  have hS : va_S (mA am) s.heap s.heap [] := va_S.rf
  have hAA : ∀ q, mA am q → mA am q := fun _ h => h
  have hl := lv_entry ([.ref (am 0), .int (zb old)]) (n := 4) (Nat.le_of_ble_eq_true rfl)
  rw [lg_entry_eq]
  generalize (lg_sl ([.ref (am 0), .int (zb old)]) ++ List.replicate (4 - (lg_sl ([.ref (am 0), .int (zb old)])).length) Slot.unset).toArray = ls at hl ⊢
  have hl : lv_has ls 4 [(0, .ref (am 0)), (1, .int (zb old))] := hl
  skip
  refine lv_aload_n hx hb d_M_isAccepted_0 rfl (lv_at hl 0 rfl) ?_
  refine lv_iload_n hx hb d_M_isAccepted_1 rfl (lv_at hl 1 rfl) ?_
  refine mm_ci (index := 189) (n := 1) (As := [.int (zb old)]) (rest := []) ⟨hx, hb, hml, hown, hts⟩ (k_joinedM l D ca am (ar) hI old hT hN8 hsz) mk_M_189 mo_M_joined me_M_M_joined_M mi_M mc_M_joined (by decide +kernel) ⟨rfl, rfl⟩ ⟨by decide, by decide⟩ hK hP hS hAA rfl hl.1 rfl (Nat.le_of_ble_eq_true rfl) d_M_isAccepted_2 ⟨Nat.zero_le _, Nat.zero_le _⟩ (fun r ar1 H locs hpost hP hS => ?_)
  obtain ⟨h, hk, hh, rfl, rfl⟩ := hpost
  have hs1 := hT.1
  have hb1 := hh (ar 0 1 - 1) (by omega)
  refine lv_if_lt (tgt := 12) hx hb d_M_isAccepted_5 rfl (fun h5 => ?_) (fun h5 => ?_)
  · skip
    have g0 : decide (h (ar 0 1 - 1) < 2147483648) = false := decide_eq_false (by have := (zn_lt0 (by omega)).mp h5; omega)
    refine lv_iconst (v := 0) hx hb d_M_isAccepted_12 rfl ?_
    refine lv_istore_n (lv' := [(2, .int 0), (0, .ref (am 0)), (1, .int (zb old))]) hx hb d_M_isAccepted_13 rfl hl (by decide) rfl (fun ls hl => ?_)
    refine lv_iconst (v := 0) hx hb d_M_isAccepted_14 rfl ?_
    refine lv_istore_n (lv' := [(3, .int 0), (2, .int 0), (0, .ref (am 0)), (1, .int (zb old))]) hx hb d_M_isAccepted_15 rfl hl (by decide) rfl (fun ls hl => ?_)
    have hl : lv_has ls 4 [(3, .int (nI 0)), (2, .int (zb (false && acAll ar old 0))), (1, .int (zb old)), (0, .ref (am 0))] := lv_sub hl [0, 1, 3, 2] rfl
    refine isAcc_loop hx hb hml hown hts hK hD hI hAA (by decide) (by decide) (Nat.zero_le _) (Nat.zero_le _) old false hT.2.1 hN8 hbs his hP (fun ls hl => ?_) (ar 0 2) 0 (Nat.zero_add _) ls hl
    refine lv_iload_n hx hb d_M_isAccepted_49 rfl (lv_at hl 0 rfl) ?_
    exact W.zret hx hb hr (zb_nar _) (fun t ht hW => ⟨⟨_, va_up ar 26 h, rfl, ⟨h, _, ⟨h, hk, hh, rfl⟩, rfl, by rw [g0]⟩, va_K.moved hW.alike hK, by rw [ht]; exact hP⟩, hS.F ht⟩) hS.2.2 d_M_isAccepted_50
  · skip
    have g0 : decide (h (ar 0 1 - 1) < 2147483648) = true := decide_eq_true (by have := mt (zn_lt0 (by omega)).mpr h5; omega)
    refine lv_iconst (v := 1) hx hb d_M_isAccepted_8 rfl ?_
    refine lv_goto (tgt := 13) hx hb d_M_isAccepted_9 rfl ?_
    refine lv_istore_n (lv' := [(2, .int 1), (0, .ref (am 0)), (1, .int (zb old))]) hx hb d_M_isAccepted_13 rfl hl (by decide) rfl (fun ls hl => ?_)
    refine lv_iconst (v := 0) hx hb d_M_isAccepted_14 rfl ?_
    refine lv_istore_n (lv' := [(3, .int 0), (2, .int 1), (0, .ref (am 0)), (1, .int (zb old))]) hx hb d_M_isAccepted_15 rfl hl (by decide) rfl (fun ls hl => ?_)
    have hl : lv_has ls 4 [(3, .int (nI 0)), (2, .int (zb (true && acAll ar old 0))), (1, .int (zb old)), (0, .ref (am 0))] := lv_sub hl [0, 1, 3, 2] rfl
    refine isAcc_loop hx hb hml hown hts hK hD hI hAA (by decide) (by decide) (Nat.zero_le _) (Nat.zero_le _) old true hT.2.1 hN8 hbs his hP (fun ls hl => ?_) (ar 0 2) 0 (Nat.zero_add _) ls hl
    refine lv_iload_n hx hb d_M_isAccepted_49 rfl (lv_at hl 0 rfl) ?_
    exact W.zret hx hb hr (zb_nar _) (fun t ht hW => ⟨⟨_, va_up ar 26 h, rfl, ⟨h, _, ⟨h, hk, hh, rfl⟩, rfl, by rw [g0]⟩, va_K.moved hW.alike hK, by rw [ht]; exact hP⟩, hS.F ht⟩) hS.2.2 d_M_isAccepted_50

theorem d_M_verify_0 : decode c_M_verify 0 = .ok (.aload_n 0, 1) := by decide +kernel
theorem d_M_verify_1 : decode c_M_verify 1 = .ok (.getfield 122, 3) := by decide +kernel
theorem d_M_verify_4 : decode c_M_verify 4 = .ok (.ifCond .le 15, 3) := by decide +kernel
theorem d_M_verify_7 : decode c_M_verify 7 = .ok (.aload_n 0, 1) := by decide +kernel
theorem d_M_verify_8 : decode c_M_verify 8 = .ok (.iconst 0, 1) := by decide +kernel
theorem d_M_verify_9 : decode c_M_verify 9 = .ok (.invokevirtual 197, 3) := by decide +kernel
theorem d_M_verify_12 : decode c_M_verify 12 = .ok (.ifCond .eq 7, 3) := by decide +kernel
theorem d_M_verify_15 : decode c_M_verify 15 = .ok (.iconst 1, 1) := by decide +kernel
theorem d_M_verify_16 : decode c_M_verify 16 = .ok (.goto 4, 3) := by decide +kernel
theorem d_M_verify_19 : decode c_M_verify 19 = .ok (.iconst 0, 1) := by decide +kernel
theorem d_M_verify_20 : decode c_M_verify 20 = .ok (.ireturn, 1) := by decide +kernel

set_option maxHeartbeats 4000000 in
set_option maxRecDepth 100000 in
/-- verify() -/
theorem k_verifyM (l : Launch) (D : va_G) (ca : Nat → ClassId) (am : Nat → Nat) (ar : Nat → Nat → Nat) (hI : mI am) (hT : tT ar) (hN8 : tN ar) (hbs : ∀ i, i < 16 → ar 11 i < 10007) (his : ∀ i, i < 16 → ar 12 i < 10007) : Met l y_M_verify (Cond.code y_M_verify c_M_verify 1 (some .boolean) :: zT) ({ frames := 5, cells := 0, slots := 0, locals := 200 }) (va_Pc [.ref (am 0)] (mw D ca am ar)) (va_Qi (fun r ar1 => (ar 0 1 = 0 ∧ r = 0 ∧ ar1 = ar) ∨ (0 < ar 0 1 ∧ ∃ (h : Nat → Nat) (b : Bool), accP ar false b ∧ ar1 = va_up ar 26 h ∧ r = zb b)) (mw D ca am) (mA am)) 0 0 (mA am) := by
  refine Met.ofW (cc := c_M_verify) (maxL := 1) (ret := (some .boolean)) (by decide) rfl ?_
  intro p e s m args below meth c s₁ B hml hv
  obtain ⟨rfl, hK, hP⟩ := hv
  have hx := B.exec
  have hb := B.bytes
  have hr := B.returns
  have hts0 := atoms_spec (ws := Cond.code y_M_verify c_M_verify 1 (some .boolean) :: zT) B.pre
  have hts := fun w h => hts0 w (List.mem_cons_of_mem _ h)
  have hown : s.vm.findClass R_M = some m.cls := findClass_of_methodNamed B.named
  have hlocks := B.notSynchronized
  have hD := mI_D hI
  have hS : va_S (mA am) s.heap s.heap [] := va_S.rf
  have hAA : ∀ q, mA am q → mA am q := fun _ h => h
  have hl := lv_entry ([.ref (am 0)]) (n := 1) (Nat.le_of_ble_eq_true rfl)
  rw [lg_entry_eq]
  generalize (lg_sl ([.ref (am 0)]) ++ List.replicate (1 - (lg_sl ([.ref (am 0)])).length) Slot.unset).toArray = ls at hl ⊢
  have hl : lv_has ls 1 [(0, .ref (am 0))] := hl
  skip
  refine lv_aload_n hx hb d_M_verify_0 rfl (lv_at hl 0 rfl) ?_
  refine mm_get hx hb hts hown hK hP (index := 122) 28 (by decide) mf_M_122 (v := .int (nI (ar 0 1))) rfl d_M_verify_1 ?_
  refine lv_if_le (tgt := 19) hx hb d_M_verify_4 rfl (fun h4 => ?_) (fun h4 => ?_)
  · skip
    have z : ar 0 1 = 0 := by
      have hs1 := hT.1
      rcases Nat.eq_zero_or_pos (ar 0 1) with q | q
      · exact q
      · exact absurd h4 (nI_nle q (by omega))
    refine lv_iconst (v := 0) hx hb d_M_verify_19 rfl ?_
    exact W.zret hx hb hr (rfl) (fun t ht hW => ⟨⟨_, ar, rfl, Or.inl ⟨z, rfl, rfl⟩, va_K.moved hW.alike hK, by rw [ht]; exact hP⟩, hS.F ht⟩) hS.2.2 d_M_verify_20
  · skip
    have z : 0 < ar 0 1 := by
      rcases Nat.eq_zero_or_pos (ar 0 1) with q | q
      · exact absurd (by rw [q]; decide) h4
      · exact q
    refine lv_aload_n hx hb d_M_verify_7 rfl (lv_at hl 0 rfl) ?_
    refine lv_iconst (v := 0) hx hb d_M_verify_8 rfl ?_
    refine mm_ci (index := 197) (n := 1) (As := [.int 0]) (rest := []) ⟨hx, hb, hml, hown, hts⟩ (k_isAcceptedM l D ca am (ar) hI false hT hN8 z hbs his) mk_M_197 mo_M_isAccepted me_M_M_isAccepted_M mi_M mc_M_isAccepted (by decide +kernel) ⟨rfl, rfl⟩ ⟨by decide, by decide⟩ hK hP hS hAA rfl hl.1 rfl (Nat.le_of_ble_eq_true rfl) d_M_verify_9 ⟨Nat.zero_le _, Nat.zero_le _⟩ (fun r ar1 H locs hpost hP hS => ?_)
    obtain ⟨h, b, hb1, rfl, rfl⟩ := hpost
    refine lv_if_eq (tgt := 19) hx hb d_M_verify_12 rfl (fun h12 => ?_) (fun h12 => ?_)
    · skip
      obtain rfl := zb_eq h12
      refine lv_iconst (v := 0) hx hb d_M_verify_19 rfl ?_
      exact W.zret hx hb hr (rfl) (fun t ht hW => ⟨⟨_, va_up ar 26 h, rfl, Or.inr ⟨z, h, _, hb1, rfl, rfl⟩, va_K.moved hW.alike hK, by rw [ht]; exact hP⟩, hS.F ht⟩) hS.2.2 d_M_verify_20
    · skip
      obtain rfl := zb_ne h12
      refine lv_iconst (v := 1) hx hb d_M_verify_15 rfl ?_
      refine lv_goto (tgt := 20) hx hb d_M_verify_16 rfl ?_
      exact W.zret hx hb hr (rfl) (fun t ht hW => ⟨⟨_, va_up ar 26 h, rfl, Or.inr ⟨z, h, _, hb1, rfl, rfl⟩, va_K.moved hW.alike hK, by rw [ht]; exact hP⟩, hS.F ht⟩) hS.2.2 d_M_verify_20

theorem d_M_challenge_0 : decode c_M_challenge 0 = .ok (.aload_n 0, 1) := by decide +kernel
theorem d_M_challenge_1 : decode c_M_challenge 1 = .ok (.getfield 122, 3) := by decide +kernel
theorem d_M_challenge_4 : decode c_M_challenge 4 = .ok (.ifCond .ne 6, 3) := by decide +kernel
theorem d_M_challenge_7 : decode c_M_challenge 7 = .ok (.bipush (-2), 2) := by decide +kernel
theorem d_M_challenge_9 : decode c_M_challenge 9 = .ok (.ireturn, 1) := by decide +kernel
theorem d_M_challenge_10 : decode c_M_challenge 10 = .ok (.aload_n 0, 1) := by decide +kernel
theorem d_M_challenge_11 : decode c_M_challenge 11 = .ok (.iconst 0, 1) := by decide +kernel
theorem d_M_challenge_12 : decode c_M_challenge 12 = .ok (.invokevirtual 189, 3) := by decide +kernel
theorem d_M_challenge_15 : decode c_M_challenge 15 = .ok (.istore_n 1, 1) := by decide +kernel
theorem d_M_challenge_16 : decode c_M_challenge 16 = .ok (.iload_n 1, 1) := by decide +kernel
theorem d_M_challenge_17 : decode c_M_challenge 17 = .ok (.ifCond .ge 8, 3) := by decide +kernel
theorem d_M_challenge_20 : decode c_M_challenge 20 = .ok (.bipush (-4), 2) := by decide +kernel
theorem d_M_challenge_22 : decode c_M_challenge 22 = .ok (.goto 4, 3) := by decide +kernel
theorem d_M_challenge_25 : decode c_M_challenge 25 = .ok (.iload_n 1, 1) := by decide +kernel
theorem d_M_challenge_26 : decode c_M_challenge 26 = .ok (.ireturn, 1) := by decide +kernel

set_option maxHeartbeats 4000000 in
set_option maxRecDepth 100000 in
/-- challenge() -/
theorem k_challengeM (l : Launch) (D : va_G) (ca : Nat → ClassId) (am : Nat → Nat) (ar : Nat → Nat → Nat) (hI : mI am) (hT : tT ar) (hN8 : tN ar) : Met l y_M_challenge (Cond.code y_M_challenge c_M_challenge 2 (some .int) :: zT) ({ frames := 2, cells := 0, slots := 0, locals := 80 }) (va_Pc [.ref (am 0)] (mw D ca am ar)) (va_Qi (fun r ar1 => (ar 0 1 = 0 ∧ r = -2 ∧ ar1 = ar) ∨ (0 < ar 0 1 ∧ ∃ h : Nat → Nat, vOK ar 15 h (ar 0 1) ∧ vB h (ar 0 1) ∧ ar1 = va_up ar 26 h ∧ r = if h (ar 0 1 - 1) < 2147483648 then nI (h (ar 0 1 - 1)) else -4)) (mw D ca am) (mA am)) 0 0 (mA am) := by
  refine Met.ofW (cc := c_M_challenge) (maxL := 2) (ret := (some .int)) (by decide) rfl ?_
  intro p e s m args below meth c s₁ B hml hv
  obtain ⟨rfl, hK, hP⟩ := hv
  have hx := B.exec
  have hb := B.bytes
  have hr := B.returns
  have hts0 := atoms_spec (ws := Cond.code y_M_challenge c_M_challenge 2 (some .int) :: zT) B.pre
  have hts := fun w h => hts0 w (List.mem_cons_of_mem _ h)
  have hown : s.vm.findClass R_M = some m.cls := findClass_of_methodNamed B.named
  have hlocks := B.notSynchronized
  have hD := mI_D hI
  have hS : va_S (mA am) s.heap s.heap [] := va_S.rf
  have hAA : ∀ q, mA am q → mA am q := fun _ h => h
  have hl := lv_entry ([.ref (am 0)]) (n := 2) (Nat.le_of_ble_eq_true rfl)
  rw [lg_entry_eq]
  generalize (lg_sl ([.ref (am 0)]) ++ List.replicate (2 - (lg_sl ([.ref (am 0)])).length) Slot.unset).toArray = ls at hl ⊢
  have hl : lv_has ls 2 [(0, .ref (am 0))] := hl
  skip
  refine lv_aload_n hx hb d_M_challenge_0 rfl (lv_at hl 0 rfl) ?_
  refine mm_get hx hb hts hown hK hP (index := 122) 28 (by decide) mf_M_122 (v := .int (nI (ar 0 1))) rfl d_M_challenge_1 ?_
  refine lv_if_ne (tgt := 10) hx hb d_M_challenge_4 rfl (fun h4 => ?_) (fun h4 => ?_)
  · skip
    have z : ¬ ar 0 1 = 0 := fun q => h4 (by rw [q]; rfl)
    refine lv_aload_n hx hb d_M_challenge_10 rfl (lv_at hl 0 rfl) ?_
    refine lv_iconst (v := 0) hx hb d_M_challenge_11 rfl ?_
    refine mm_ci (index := 189) (n := 1) (As := [.int 0]) (rest := []) ⟨hx, hb, hml, hown, hts⟩ (k_joinedM l D ca am (ar) hI false hT hN8 (by omega)) mk_M_189 mo_M_joined me_M_M_joined_M mi_M mc_M_joined (by decide +kernel) ⟨rfl, rfl⟩ ⟨by decide, by decide⟩ hK hP hS hAA rfl hl.1 rfl (Nat.le_of_ble_eq_true rfl) d_M_challenge_12 ⟨Nat.zero_le _, Nat.zero_le _⟩ (fun r ar1 H locs hpost hP hS => ?_)
    obtain ⟨h, hk, hh, rfl, rfl⟩ := hpost
    have hb1 := hh (ar 0 1 - 1) (by omega)
    refine lv_istore_n (lv' := [(1, .int (nI (h (ar 0 1 - 1)))), (0, .ref (am 0))]) hx hb d_M_challenge_15 rfl hl (by decide) rfl (fun ls hl => ?_)
    refine lv_iload_n hx hb d_M_challenge_16 rfl (lv_at hl 0 rfl) ?_
    refine lv_if_ge (tgt := 25) hx hb d_M_challenge_17 rfl (fun h17 => ?_) (fun h17 => ?_)
    · skip
      have v : h (ar 0 1 - 1) < 2147483648 := (zn_ge0 (by omega)).mp h17
      refine lv_iload_n hx hb d_M_challenge_25 rfl (lv_at hl 0 rfl) ?_
      exact W.iret hx hb hr (fun t ht hW => ⟨⟨_, va_up ar 26 h, rfl, Or.inr ⟨by omega, h, hk, hh, rfl, by rw [if_pos v]⟩, va_K.moved hW.alike hK, by rw [ht]; exact hP⟩, hS.F ht⟩) hS.2.2 d_M_challenge_26
    · skip
      have v : ¬ h (ar 0 1 - 1) < 2147483648 := mt (zn_ge0 (by omega)).mpr h17
      refine lv_bipush (v := (-4)) hx hb d_M_challenge_20 rfl ?_
      refine lv_goto (tgt := 26) hx hb d_M_challenge_22 rfl ?_
      exact W.iret hx hb hr (fun t ht hW => ⟨⟨_, va_up ar 26 h, rfl, Or.inr ⟨by omega, h, hk, hh, rfl, by rw [if_neg v]⟩, va_K.moved hW.alike hK, by rw [ht]; exact hP⟩, hS.F ht⟩) hS.2.2 d_M_challenge_26
  · skip
    have z : ar 0 1 = 0 := (zn_inj (by have := hT.1; omega) (by decide)).mp h4
    refine lv_bipush (v := (-2)) hx hb d_M_challenge_7 rfl ?_
    exact W.iret hx hb hr (fun t ht hW => ⟨⟨_, ar, rfl, Or.inl ⟨z, rfl, rfl⟩, va_K.moved hW.alike hK, by rw [ht]; exact hP⟩, hS.F ht⟩) hS.2.2 d_M_challenge_9

theorem d_M_save_0 : decode c_M_save 0 = .ok (.aload_n 0, 1) := by decide +kernel
theorem d_M_save_1 : decode c_M_save 1 = .ok (.getfield 122, 3) := by decide +kernel
theorem d_M_save_4 : decode c_M_save 4 = .ok (.ifCond .ne 5, 3) := by decide +kernel
theorem d_M_save_7 : decode c_M_save 7 = .ok (.iconst 0, 1) := by decide +kernel
theorem d_M_save_8 : decode c_M_save 8 = .ok (.ireturn, 1) := by decide +kernel
theorem d_M_save_9 : decode c_M_save 9 = .ok (.iconst 0, 1) := by decide +kernel
theorem d_M_save_10 : decode c_M_save 10 = .ok (.istore_n 1, 1) := by decide +kernel
theorem d_M_save_11 : decode c_M_save 11 = .ok (.iload_n 1, 1) := by decide +kernel
theorem d_M_save_12 : decode c_M_save 12 = .ok (.bipush 16, 2) := by decide +kernel
theorem d_M_save_14 : decode c_M_save 14 = .ok (.if_icmp .ge 21, 3) := by decide +kernel
theorem d_M_save_17 : decode c_M_save 17 = .ok (.aload_n 0, 1) := by decide +kernel
theorem d_M_save_18 : decode c_M_save 18 = .ok (.getfield 58, 3) := by decide +kernel
theorem d_M_save_21 : decode c_M_save 21 = .ok (.iload_n 1, 1) := by decide +kernel
theorem d_M_save_22 : decode c_M_save 22 = .ok (.aload_n 0, 1) := by decide +kernel
theorem d_M_save_23 : decode c_M_save 23 = .ok (.getfield 49, 3) := by decide +kernel
theorem d_M_save_26 : decode c_M_save 26 = .ok (.iload_n 1, 1) := by decide +kernel
theorem d_M_save_27 : decode c_M_save 27 = .ok (.iaload, 1) := by decide +kernel
theorem d_M_save_28 : decode c_M_save 28 = .ok (.iastore, 1) := by decide +kernel
theorem d_M_save_29 : decode c_M_save 29 = .ok (.iinc 1 1, 3) := by decide +kernel
theorem d_M_save_32 : decode c_M_save 32 = .ok (.goto (-21), 3) := by decide +kernel
theorem d_M_save_35 : decode c_M_save 35 = .ok (.iconst 0, 1) := by decide +kernel
theorem d_M_save_36 : decode c_M_save 36 = .ok (.istore_n 1, 1) := by decide +kernel
theorem d_M_save_37 : decode c_M_save 37 = .ok (.iload_n 1, 1) := by decide +kernel
theorem d_M_save_38 : decode c_M_save 38 = .ok (.bipush 8, 2) := by decide +kernel
theorem d_M_save_40 : decode c_M_save 40 = .ok (.if_icmp .ge 33, 3) := by decide +kernel
theorem d_M_save_43 : decode c_M_save 43 = .ok (.aload_n 0, 1) := by decide +kernel
theorem d_M_save_44 : decode c_M_save 44 = .ok (.getfield 61, 3) := by decide +kernel
theorem d_M_save_47 : decode c_M_save 47 = .ok (.iload_n 1, 1) := by decide +kernel
theorem d_M_save_48 : decode c_M_save 48 = .ok (.aload_n 0, 1) := by decide +kernel
theorem d_M_save_49 : decode c_M_save 49 = .ok (.getfield 52, 3) := by decide +kernel
theorem d_M_save_52 : decode c_M_save 52 = .ok (.iload_n 1, 1) := by decide +kernel
theorem d_M_save_53 : decode c_M_save 53 = .ok (.iaload, 1) := by decide +kernel
theorem d_M_save_54 : decode c_M_save 54 = .ok (.iastore, 1) := by decide +kernel
theorem d_M_save_55 : decode c_M_save 55 = .ok (.aload_n 0, 1) := by decide +kernel
theorem d_M_save_56 : decode c_M_save 56 = .ok (.getfield 64, 3) := by decide +kernel
theorem d_M_save_59 : decode c_M_save 59 = .ok (.iload_n 1, 1) := by decide +kernel
theorem d_M_save_60 : decode c_M_save 60 = .ok (.aload_n 0, 1) := by decide +kernel
theorem d_M_save_61 : decode c_M_save 61 = .ok (.getfield 55, 3) := by decide +kernel
theorem d_M_save_64 : decode c_M_save 64 = .ok (.iload_n 1, 1) := by decide +kernel
theorem d_M_save_65 : decode c_M_save 65 = .ok (.iaload, 1) := by decide +kernel
theorem d_M_save_66 : decode c_M_save 66 = .ok (.iastore, 1) := by decide +kernel
theorem d_M_save_67 : decode c_M_save 67 = .ok (.iinc 1 1, 3) := by decide +kernel
theorem d_M_save_70 : decode c_M_save 70 = .ok (.goto (-33), 3) := by decide +kernel
theorem d_M_save_73 : decode c_M_save 73 = .ok (.aload_n 0, 1) := by decide +kernel
theorem d_M_save_74 : decode c_M_save 74 = .ok (.iconst 1, 1) := by decide +kernel
theorem d_M_save_75 : decode c_M_save 75 = .ok (.putfield 128, 3) := by decide +kernel
theorem d_M_save_78 : decode c_M_save 78 = .ok (.iconst 1, 1) := by decide +kernel
theorem d_M_save_79 : decode c_M_save 79 = .ok (.ireturn, 1) := by decide +kernel

theorem up_eq {h g : Nat → Nat} {k : Nat} (hh : ∀ i, i < k → h i = g i) : ∀ i, i < k + 1 → va_up h k (g k) i = g i := by
  intro i hi
  by_cases e : i = k
  · subst e; rw [va_up_self]
  · rw [va_up_ne _ _ e]; exact hh i (by omega)

section MV
variable {p : Program} {l : Launch} {e : Env} {R : Room} {s : State} {m : MethodId} {args : Array Value} {below : List Frame} {meth : Method} {c : Code} {H0 : Heap} {cells slots : Nat} {Q : State → Prop} {A : Nat → Prop} {D : va_G} {ca : Nat → ClassId} {am : Nat → Nat} {ar : Nat → Nat → Nat}
set_option maxHeartbeats 4000000 in
set_option maxRecDepth 100000 in
theorem save_l1 (hx : p.tables.exec = Jvm.exec) (hb : c.code = c_M_save) (hml : c.maxLocals = 2) (hown : s.vm.findClass R_M = some m.cls) (hts : ∀ w ∈ zT, w.before args s = true) (hK : va_K D zC (zty ca) s) (hD : zD A 28 am) (kk : ∀ (h : Nat → Nat) (H : Heap) (locs : List Loc) (ls : Array Slot), (∀ i, i < 16 → h i = ar 14 i) → va_P D zC (zl 28 am (mct ca am (va_up ar 17 h))) H → va_S A H0 H locs → lv_has ls 2 [(0, .ref (am 0))] → W p l e R s m args below meth c H locs cells slots Q (F0 m 35 ls [])) : ∀ (j k : Nat), k + j = 16 → ∀ (h : Nat → Nat) (H : Heap) (locs : List Loc) (ls : Array Slot), (∀ i, i < k → h i = ar 14 i) → va_P D zC (zl 28 am (mct ca am (va_up ar 17 h))) H → va_S A H0 H locs → lv_has ls 2 [(1, .int (nI k)), (0, .ref (am 0))] → W p l e R s m args below meth c H locs cells slots Q (F0 m 11 ls []) := by
  intro j
  induction j with
  | zero =>
    intro k hk h H locs ls hh hP hS hl
    obtain rfl : k = 16 := by omega
    refine lv_iload_n hx hb d_M_save_11 rfl (lv_at hl 0 rfl) ?_
    refine lv_bipush (v := 16) hx hb d_M_save_12 rfl ?_
    refine lv_icmp_ge (tgt := 35) hx hb d_M_save_14 rfl (fun h14 => ?_) (fun h14 => absurd (by decide) h14)
    have hl := lv_sub (l' := [(0, .ref (am 0))]) hl [1] rfl
    exact kk h H locs ls hh hP hS hl
  | succ j ih =>
    intro k hk h H locs ls hh hP hS hl
    refine lv_iload_n hx hb d_M_save_11 rfl (lv_at hl 0 rfl) ?_
    refine lv_bipush (v := 16) hx hb d_M_save_12 rfl ?_
    refine lv_icmp_ge (tgt := 35) hx hb d_M_save_14 rfl (fun h14 => absurd h14 (nI_ge (b := 16) (by omega) (by decide))) (fun h14 => ?_)
    refine lv_aload_n hx hb d_M_save_17 rfl (lv_at hl 1 rfl) ?_
    refine mm_get hx hb hts hown hK hP (index := 58) 16 (by decide) mf_M_58 (v := .ref (am 17)) rfl d_M_save_18 ?_
    refine lv_iload_n hx hb d_M_save_21 rfl (lv_at hl 0 rfl) ?_
    refine lv_aload_n hx hb d_M_save_22 rfl (lv_at hl 1 rfl) ?_
    refine mm_get hx hb hts hown hK hP (index := 49) 13 (by decide) mf_M_49 (v := .ref (am 14)) rfl d_M_save_23 ?_
    refine lv_iload_n hx hb d_M_save_26 rfl (lv_at hl 0 rfl) ?_
    refine mm_ald hx hb hK hP 13 (by decide) rfl (k) rfl (show k < 16 from by omega) (ar 14 k) (rfl) d_M_save_27 ?_
    refine mm_ast hx hb hK hP hD hS 16 (by decide) rfl (k) rfl (show k < 16 from by omega) (ar 14 k) (rfl) d_M_save_28 (fun H locs hP hS => ?_)
    refine lv_iinc (k := 0) (v := nI (k + 1)) (lv' := [(1, .int (nI (k + 1))), (0, .ref (am 0))]) hx hb d_M_save_29 hl rfl (nI_1 _) (by decide) rfl (fun ls hl => ?_)
    refine lv_goto (tgt := 11) hx hb d_M_save_32 rfl ?_
    rw [zs_up] at hP
    have hl := lv_sub (l' := [(1, .int (nI (k + 1))), (0, .ref (am 0))]) hl [0, 1] rfl
    exact ih (k + 1) (by omega) (va_up h k (ar 14 k)) H locs ls (up_eq hh) hP hS hl
set_option maxHeartbeats 4000000 in
set_option maxRecDepth 100000 in
theorem save_l2 (hx : p.tables.exec = Jvm.exec) (hb : c.code = c_M_save) (hml : c.maxLocals = 2) (hown : s.vm.findClass R_M = some m.cls) (hts : ∀ w ∈ zT, w.before args s = true) (hK : va_K D zC (zty ca) s) (hD : zD A 28 am) {h : Nat → Nat} (kk : ∀ (h2 h3 : Nat → Nat) (H : Heap) (locs : List Loc) (ls : Array Slot), (∀ i, i < 8 → h2 i = ar 15 i) → (∀ i, i < 8 → h3 i = ar 16 i) → va_P D zC (zl 28 am (mct ca am (va_up (va_up (va_up ar 17 h) 18 h2) 19 h3))) H → va_S A H0 H locs → lv_has ls 2 [(0, .ref (am 0))] → W p l e R s m args below meth c H locs cells slots Q (F0 m 73 ls [])) : ∀ (j k : Nat), k + j = 8 → ∀ (h2 h3 : Nat → Nat) (H : Heap) (locs : List Loc) (ls : Array Slot), (∀ i, i < k → h2 i = ar 15 i) → (∀ i, i < k → h3 i = ar 16 i) → va_P D zC (zl 28 am (mct ca am (va_up (va_up (va_up ar 17 h) 18 h2) 19 h3))) H → va_S A H0 H locs → lv_has ls 2 [(1, .int (nI k)), (0, .ref (am 0))] → W p l e R s m args below meth c H locs cells slots Q (F0 m 37 ls []) := by
  intro j
  induction j with
  | zero =>
    intro k hk h2 h3 H locs ls hh2 hh3 hP hS hl
    obtain rfl : k = 8 := by omega
    refine lv_iload_n hx hb d_M_save_37 rfl (lv_at hl 0 rfl) ?_
    refine lv_bipush (v := 8) hx hb d_M_save_38 rfl ?_
    refine lv_icmp_ge (tgt := 73) hx hb d_M_save_40 rfl (fun h40 => ?_) (fun h40 => absurd (by decide) h40)
    have hl := lv_sub (l' := [(0, .ref (am 0))]) hl [1] rfl
    exact kk h2 h3 H locs ls hh2 hh3 hP hS hl
  | succ j ih =>
    intro k hk h2 h3 H locs ls hh2 hh3 hP hS hl
    refine lv_iload_n hx hb d_M_save_37 rfl (lv_at hl 0 rfl) ?_
    refine lv_bipush (v := 8) hx hb d_M_save_38 rfl ?_
    refine lv_icmp_ge (tgt := 73) hx hb d_M_save_40 rfl (fun h40 => absurd h40 (nI_ge (b := 8) (by omega) (by decide))) (fun h40 => ?_)
    refine lv_aload_n hx hb d_M_save_43 rfl (lv_at hl 1 rfl) ?_
    refine mm_get hx hb hts hown hK hP (index := 61) 17 (by decide) mf_M_61 (v := .ref (am 18)) rfl d_M_save_44 ?_
    refine lv_iload_n hx hb d_M_save_47 rfl (lv_at hl 0 rfl) ?_
    refine lv_aload_n hx hb d_M_save_48 rfl (lv_at hl 1 rfl) ?_
    refine mm_get hx hb hts hown hK hP (index := 52) 14 (by decide) mf_M_52 (v := .ref (am 15)) rfl d_M_save_49 ?_
    refine lv_iload_n hx hb d_M_save_52 rfl (lv_at hl 0 rfl) ?_
    refine mm_ald hx hb hK hP 14 (by decide) rfl (k) rfl (show k < 8 from by omega) (ar 15 k) (rfl) d_M_save_53 ?_
    refine mm_ast hx hb hK hP hD hS 17 (by decide) rfl (k) rfl (show k < 8 from by omega) (ar 15 k) (rfl) d_M_save_54 (fun H locs hP hS => ?_)
    refine lv_aload_n hx hb d_M_save_55 rfl (lv_at hl 1 rfl) ?_
    refine mm_get hx hb hts hown hK hP (index := 64) 18 (by decide) mf_M_64 (v := .ref (am 19)) rfl d_M_save_56 ?_
    refine lv_iload_n hx hb d_M_save_59 rfl (lv_at hl 0 rfl) ?_
    refine lv_aload_n hx hb d_M_save_60 rfl (lv_at hl 1 rfl) ?_
    refine mm_get hx hb hts hown hK hP (index := 55) 15 (by decide) mf_M_55 (v := .ref (am 16)) rfl d_M_save_61 ?_
    refine lv_iload_n hx hb d_M_save_64 rfl (lv_at hl 0 rfl) ?_
    refine mm_ald hx hb hK hP 15 (by decide) rfl (k) rfl (show k < 8 from by omega) (ar 16 k) (rfl) d_M_save_65 ?_
    refine mm_ast hx hb hK hP hD hS 18 (by decide) rfl (k) rfl (show k < 8 from by omega) (ar 16 k) (rfl) d_M_save_66 (fun H locs hP hS => ?_)
    refine lv_iinc (k := 0) (v := nI (k + 1)) (lv' := [(1, .int (nI (k + 1))), (0, .ref (am 0))]) hx hb d_M_save_67 hl rfl (nI_1 _) (by decide) rfl (fun ls hl => ?_)
    refine lv_goto (tgt := 37) hx hb d_M_save_70 rfl ?_
    rw [zs_upn (i := 19) (j := 18) _ _ _ _ (by decide), zs_up, zs_up] at hP
    have hl := lv_sub (l' := [(1, .int (nI (k + 1))), (0, .ref (am 0))]) hl [0, 1] rfl
    exact ih (k + 1) (by omega) (va_up h2 k (ar 15 k)) (va_up h3 k (ar 16 k)) H locs ls (up_eq hh2) (up_eq hh3) hP hS hl
end MV

set_option maxHeartbeats 4000000 in
set_option maxRecDepth 100000 in
/-- save() -/
theorem k_saveM (l : Launch) (D : va_G) (ca : Nat → ClassId) (am : Nat → Nat) (ar : Nat → Nat → Nat) (hI : mI am) (hT : tT ar) : Met l y_M_save (Cond.code y_M_save c_M_save 2 (some .boolean) :: zT) ({ frames := 1, cells := 0, slots := 0, locals := 40 }) (va_Pc [.ref (am 0)] (mw D ca am ar)) (va_Qi (fun r ar1 => (ar 0 1 = 0 ∧ r = 0 ∧ ar1 = ar) ∨ (0 < ar 0 1 ∧ r = 1 ∧ ∃ h h2 h3 : Nat → Nat, (∀ i, i < 16 → h i = ar 14 i) ∧ (∀ i, i < 8 → h2 i = ar 15 i) ∧ (∀ i, i < 8 → h3 i = ar 16 i) ∧ ar1 = zs (va_up (va_up (va_up ar 17 h) 18 h2) 19 h3) 0 3 1)) (mw D ca am) (mA am)) 0 0 (mA am) := by
  refine Met.ofW (cc := c_M_save) (maxL := 2) (ret := (some .boolean)) (by decide) rfl ?_
  intro p e s m args below meth c s₁ B hml hv
  obtain ⟨rfl, hK, hP⟩ := hv
  have hx := B.exec
  have hb := B.bytes
  have hr := B.returns
  have hts0 := atoms_spec (ws := Cond.code y_M_save c_M_save 2 (some .boolean) :: zT) B.pre
  have hts := fun w h => hts0 w (List.mem_cons_of_mem _ h)
  have hown : s.vm.findClass R_M = some m.cls := findClass_of_methodNamed B.named
  have hlocks := B.notSynchronized
  have hD := mI_D hI
  have hS : va_S (mA am) s.heap s.heap [] := va_S.rf
  have hAA : ∀ q, mA am q → mA am q := fun _ h => h
  have hl := lv_entry ([.ref (am 0)]) (n := 2) (Nat.le_of_ble_eq_true rfl)
  rw [lg_entry_eq]
  generalize (lg_sl ([.ref (am 0)]) ++ List.replicate (2 - (lg_sl ([.ref (am 0)])).length) Slot.unset).toArray = ls at hl ⊢
  have hl : lv_has ls 2 [(0, .ref (am 0))] := hl
  skip
  refine lv_aload_n hx hb d_M_save_0 rfl (lv_at hl 0 rfl) ?_
  refine mm_get hx hb hts hown hK hP (index := 122) 28 (by decide) mf_M_122 (v := .int (nI (ar 0 1))) rfl d_M_save_1 ?_
  refine lv_if_ne (tgt := 9) hx hb d_M_save_4 rfl (fun h4 => ?_) (fun h4 => ?_)
  · skip
    have z : ¬ ar 0 1 = 0 := fun q => h4 (by rw [q]; rfl)
    refine lv_iconst (v := 0) hx hb d_M_save_9 rfl ?_
    refine lv_istore_n (lv' := [(1, .int 0), (0, .ref (am 0))]) hx hb d_M_save_10 rfl hl (by decide) rfl (fun ls hl => ?_)
    have hP : va_P D zC (zl 28 am (mct ca am (va_up ar 17 (ar 17)))) s.heap := by rw [va_up_row]; exact hP
    refine save_l1 hx hb hml hown hts hK hD (fun h H locs ls hh hP hS hl => ?_) 16 0 rfl (ar 17) s.heap [] ls (fun _ q => absurd q (Nat.not_lt_zero _)) hP hS hl
    refine lv_iconst (v := 0) hx hb d_M_save_35 rfl ?_
    refine lv_istore_n (lv' := [(1, .int 0), (0, .ref (am 0))]) hx hb d_M_save_36 rfl hl (by decide) rfl (fun ls hl => ?_)
    have hP : va_P D zC (zl 28 am (mct ca am (va_up (va_up (va_up ar 17 h) 18 (ar 18)) 19 (ar 19)))) H := by
      rw [show ar 18 = (va_up ar 17 h) 18 from rfl, va_up_row, show ar 19 = (va_up ar 17 h) 19 from rfl, va_up_row]; exact hP
    refine save_l2 hx hb hml hown hts hK hD (fun h2 h3 H locs ls hh2 hh3 hP hS hl => ?_) 8 0 rfl (ar 18) (ar 19) H locs ls (fun _ q => absurd q (Nat.not_lt_zero _)) (fun _ q => absurd q (Nat.not_lt_zero _)) hP hS hl
    refine lv_aload_n hx hb d_M_save_73 rfl (lv_at hl 0 rfl) ?_
    refine lv_iconst (v := 1) hx hb d_M_save_74 rfl ?_
    refine mm_put hx hb hts hown hK hP hD hS (index := 128) 3 (by decide) mf_M_128 (1) (rfl) (zn_narb (by decide)) (zn_fitb (by decide)) d_M_save_75 (fun H locs hP hS => ?_)
    refine lv_iconst (v := 1) hx hb d_M_save_78 rfl ?_
    exact W.zret hx hb hr (rfl) (fun t ht hW => ⟨⟨_, zs (va_up (va_up (va_up ar 17 h) 18 h2) 19 h3) 0 3 1, rfl, Or.inr ⟨by omega, rfl, h, h2, h3, hh, hh2, hh3, rfl⟩, va_K.moved hW.alike hK, by rw [ht]; exact hP⟩, hS.F ht⟩) hS.2.2 d_M_save_79
  · skip
    have z : ar 0 1 = 0 := (zn_inj (by have := hT.1; omega) (by decide)).mp h4
    refine lv_iconst (v := 0) hx hb d_M_save_7 rfl ?_
    exact W.zret hx hb hr (rfl) (fun t ht hW => ⟨⟨_, ar, rfl, Or.inl ⟨z, rfl, rfl⟩, va_K.moved hW.alike hK, by rw [ht]; exact hP⟩, hS.F ht⟩) hS.2.2 d_M_save_8

theorem d_M_sameCommitments_0 : decode c_M_sameCommitments 0 = .ok (.iconst 1, 1) := by decide +kernel
theorem d_M_sameCommitments_1 : decode c_M_sameCommitments 1 = .ok (.istore_n 1, 1) := by decide +kernel
theorem d_M_sameCommitments_2 : decode c_M_sameCommitments 2 = .ok (.iconst 0, 1) := by decide +kernel
theorem d_M_sameCommitments_3 : decode c_M_sameCommitments 3 = .ok (.istore_n 2, 1) := by decide +kernel
theorem d_M_sameCommitments_4 : decode c_M_sameCommitments 4 = .ok (.iload_n 2, 1) := by decide +kernel
theorem d_M_sameCommitments_5 : decode c_M_sameCommitments 5 = .ok (.aload_n 0, 1) := by decide +kernel
theorem d_M_sameCommitments_6 : decode c_M_sameCommitments 6 = .ok (.getfield 125, 3) := by decide +kernel
theorem d_M_sameCommitments_9 : decode c_M_sameCommitments 9 = .ok (.if_icmp .ge 70, 3) := by decide +kernel
theorem d_M_sameCommitments_12 : decode c_M_sameCommitments 12 = .ok (.iload_n 1, 1) := by decide +kernel
theorem d_M_sameCommitments_13 : decode c_M_sameCommitments 13 = .ok (.ifCond .eq 58, 3) := by decide +kernel
theorem d_M_sameCommitments_16 : decode c_M_sameCommitments 16 = .ok (.aload_n 0, 1) := by decide +kernel
theorem d_M_sameCommitments_17 : decode c_M_sameCommitments 17 = .ok (.getfield 49, 3) := by decide +kernel
theorem d_M_sameCommitments_20 : decode c_M_sameCommitments 20 = .ok (.iconst 2, 1) := by decide +kernel
theorem d_M_sameCommitments_21 : decode c_M_sameCommitments 21 = .ok (.iload_n 2, 1) := by decide +kernel
theorem d_M_sameCommitments_22 : decode c_M_sameCommitments 22 = .ok (.imul, 1) := by decide +kernel
theorem d_M_sameCommitments_23 : decode c_M_sameCommitments 23 = .ok (.iaload, 1) := by decide +kernel
theorem d_M_sameCommitments_24 : decode c_M_sameCommitments 24 = .ok (.aload_n 0, 1) := by decide +kernel
theorem d_M_sameCommitments_25 : decode c_M_sameCommitments 25 = .ok (.getfield 58, 3) := by decide +kernel
theorem d_M_sameCommitments_28 : decode c_M_sameCommitments 28 = .ok (.iconst 2, 1) := by decide +kernel
theorem d_M_sameCommitments_29 : decode c_M_sameCommitments 29 = .ok (.iload_n 2, 1) := by decide +kernel
theorem d_M_sameCommitments_30 : decode c_M_sameCommitments 30 = .ok (.imul, 1) := by decide +kernel
theorem d_M_sameCommitments_31 : decode c_M_sameCommitments 31 = .ok (.iaload, 1) := by decide +kernel
theorem d_M_sameCommitments_32 : decode c_M_sameCommitments 32 = .ok (.if_icmp .ne 39, 3) := by decide +kernel
theorem d_M_sameCommitments_35 : decode c_M_sameCommitments 35 = .ok (.aload_n 0, 1) := by decide +kernel
theorem d_M_sameCommitments_36 : decode c_M_sameCommitments 36 = .ok (.iload_n 2, 1) := by decide +kernel
theorem d_M_sameCommitments_37 : decode c_M_sameCommitments 37 = .ok (.iconst 1, 1) := by decide +kernel
theorem d_M_sameCommitments_38 : decode c_M_sameCommitments 38 = .ok (.invokevirtual 138, 3) := by decide +kernel
theorem d_M_sameCommitments_41 : decode c_M_sameCommitments 41 = .ok (.ifCond .eq 26, 3) := by decide +kernel
theorem d_M_sameCommitments_44 : decode c_M_sameCommitments 44 = .ok (.aload_n 0, 1) := by decide +kernel
theorem d_M_sameCommitments_45 : decode c_M_sameCommitments 45 = .ok (.getfield 49, 3) := by decide +kernel
theorem d_M_sameCommitments_48 : decode c_M_sameCommitments 48 = .ok (.iconst 2, 1) := by decide +kernel
theorem d_M_sameCommitments_49 : decode c_M_sameCommitments 49 = .ok (.iload_n 2, 1) := by decide +kernel
theorem d_M_sameCommitments_50 : decode c_M_sameCommitments 50 = .ok (.imul, 1) := by decide +kernel
theorem d_M_sameCommitments_51 : decode c_M_sameCommitments 51 = .ok (.iconst 1, 1) := by decide +kernel
theorem d_M_sameCommitments_52 : decode c_M_sameCommitments 52 = .ok (.iadd, 1) := by decide +kernel
theorem d_M_sameCommitments_53 : decode c_M_sameCommitments 53 = .ok (.iaload, 1) := by decide +kernel
theorem d_M_sameCommitments_54 : decode c_M_sameCommitments 54 = .ok (.aload_n 0, 1) := by decide +kernel
theorem d_M_sameCommitments_55 : decode c_M_sameCommitments 55 = .ok (.getfield 58, 3) := by decide +kernel
theorem d_M_sameCommitments_58 : decode c_M_sameCommitments 58 = .ok (.iconst 2, 1) := by decide +kernel
theorem d_M_sameCommitments_59 : decode c_M_sameCommitments 59 = .ok (.iload_n 2, 1) := by decide +kernel
theorem d_M_sameCommitments_60 : decode c_M_sameCommitments 60 = .ok (.imul, 1) := by decide +kernel
theorem d_M_sameCommitments_61 : decode c_M_sameCommitments 61 = .ok (.iconst 1, 1) := by decide +kernel
theorem d_M_sameCommitments_62 : decode c_M_sameCommitments 62 = .ok (.iadd, 1) := by decide +kernel
theorem d_M_sameCommitments_63 : decode c_M_sameCommitments 63 = .ok (.iaload, 1) := by decide +kernel
theorem d_M_sameCommitments_64 : decode c_M_sameCommitments 64 = .ok (.if_icmp .ne 7, 3) := by decide +kernel
theorem d_M_sameCommitments_67 : decode c_M_sameCommitments 67 = .ok (.iconst 1, 1) := by decide +kernel
theorem d_M_sameCommitments_68 : decode c_M_sameCommitments 68 = .ok (.goto 4, 3) := by decide +kernel
theorem d_M_sameCommitments_71 : decode c_M_sameCommitments 71 = .ok (.iconst 0, 1) := by decide +kernel
theorem d_M_sameCommitments_72 : decode c_M_sameCommitments 72 = .ok (.istore_n 1, 1) := by decide +kernel
theorem d_M_sameCommitments_73 : decode c_M_sameCommitments 73 = .ok (.iinc 2 1, 3) := by decide +kernel
theorem d_M_sameCommitments_76 : decode c_M_sameCommitments 76 = .ok (.goto (-72), 3) := by decide +kernel
theorem d_M_sameCommitments_79 : decode c_M_sameCommitments 79 = .ok (.iload_n 1, 1) := by decide +kernel
theorem d_M_sameCommitments_80 : decode c_M_sameCommitments 80 = .ok (.ireturn, 1) := by decide +kernel

section MQ
variable {p : Program} {l : Launch} {e : Env} {R : Room} {s : State} {m : MethodId} {args : Array Value} {below : List Frame} {meth : Method} {c : Code} {H0 : Heap} {cells slots : Nat} {Q : State → Prop} {A : Nat → Prop} {D : va_G} {ca : Nat → ClassId} {am : Nat → Nat} {ar : Nat → Nat → Nat}
set_option maxHeartbeats 4000000 in
set_option maxRecDepth 100000 in
theorem same_loop (hx : p.tables.exec = Jvm.exec) (hb : c.code = c_M_sameCommitments) (hml : c.maxLocals = 3) (hown : s.vm.findClass R_M = some m.cls) (hts : ∀ w ∈ zT, w.before args s = true) (hK : va_K D zC (zty ca) s) (hD : zD A 28 am) (hI : mI am) (hAA : ∀ q, mA am q → A q) (hRf : 3 ≤ R.frames) (hRl : 120 ≤ R.locals) (hc : cells ≤ R.cells) (hsl : slots ≤ R.slots) (hl2 : ar 0 2 ≤ 8) (hN8 : tN ar) (hbs : ∀ i, i < 16 → ar 11 i < 10007) {H : Heap} {locs : List Loc} (hP : va_P D zC (zl 28 am (mct ca am (ar))) H) (kk : ∀ (ls : Array Slot), lv_has ls 3 [(1, .int (zb (smAll ar (ar 0 2))))] → W p l e R s m args below meth c H locs cells slots Q (F0 m 79 ls [])) : ∀ (j k : Nat), k + j = ar 0 2 → ∀ (ls : Array Slot), lv_has ls 3 [(2, .int (nI k)), (1, .int (zb (smAll ar k))), (0, .ref (am 0))] → W p l e R s m args below meth c H locs cells slots Q (F0 m 4 ls []) := by
  intro j
  induction j with
  | zero =>
    intro k hk ls hl
    obtain rfl : k = ar 0 2 := by omega
    refine lv_iload_n hx hb d_M_sameCommitments_4 rfl (lv_at hl 0 rfl) ?_
    refine lv_aload_n hx hb d_M_sameCommitments_5 rfl (lv_at hl 2 rfl) ?_
    refine mm_get hx hb hts hown hK hP (index := 125) 29 (by decide) mf_M_125 (v := .int (nI (ar 0 2))) rfl d_M_sameCommitments_6 ?_
    refine lv_icmp_ge (tgt := 79) hx hb d_M_sameCommitments_9 rfl (fun h9 => ?_) (fun h9 => absurd (Int32.le_refl _) h9)
    have hl := lv_sub (l' := [(1, .int (zb (smAll ar (ar 0 2))))]) hl [1] rfl
    exact kk ls hl
  | succ j ih =>
    intro k hk ls hl
    have hN : k < ar 0 2 := by omega
    have t0 := hN8.1 (2 * k) (by omega)
    have t1 := hN8.1 (2 * k + 1) (by omega)
    refine lv_iload_n hx hb d_M_sameCommitments_4 rfl (lv_at hl 0 rfl) ?_
    refine lv_aload_n hx hb d_M_sameCommitments_5 rfl (lv_at hl 2 rfl) ?_
    refine mm_get hx hb hts hown hK hP (index := 125) 29 (by decide) mf_M_125 (v := .int (nI (ar 0 2))) rfl d_M_sameCommitments_6 ?_
    refine lv_icmp_ge (tgt := 79) hx hb d_M_sameCommitments_9 rfl (fun h9 => absurd h9 (nI_ge hN (by omega))) (fun h9 => ?_)
    refine lv_iload_n hx hb d_M_sameCommitments_12 rfl (lv_at hl 1 rfl) ?_
    refine lv_if_eq (tgt := 71) hx hb d_M_sameCommitments_13 rfl (fun h13 => ?_) (fun h13 => ?_)
    · skip
      have hq : smAll ar (k + 1) = false := by show (smAll ar k && smB ar k) = false; rw [zb_eq h13, Bool.false_and]
      refine lv_iconst (v := 0) hx hb d_M_sameCommitments_71 rfl ?_
      refine lv_istore_n (lv' := [(1, .int 0), (2, .int (nI k)), (0, .ref (am 0))]) hx hb d_M_sameCommitments_72 rfl hl (by decide) rfl (fun ls hl => ?_)
      have hl : lv_has ls 3 [(1, .int (zb (smAll ar (k + 1)))), (2, .int (nI k)), (0, .ref (am 0))] := by rw [hq]; exact hl
      refine lv_iinc (k := 1) (v := nI (k + 1)) (lv' := [(2, .int (nI (k + 1))), (1, .int (zb (smAll ar (k + 1)))), (0, .ref (am 0))]) hx hb d_M_sameCommitments_73 hl rfl (nI_1 _) (by decide) rfl (fun ls hl => ?_)
      refine lv_goto (tgt := 4) hx hb d_M_sameCommitments_76 rfl ?_
      have hl := lv_sub (l' := [(2, .int (nI (k + 1))), (1, .int (zb (smAll ar (k + 1)))), (0, .ref (am 0))]) hl [0, 1, 2] rfl
      exact ih (k + 1) (by omega) ls hl
    · skip
      have hs := zb_ne h13
      refine lv_aload_n hx hb d_M_sameCommitments_16 rfl (lv_at hl 2 rfl) ?_
      refine mm_get hx hb hts hown hK hP (index := 49) 13 (by decide) mf_M_49 (v := .ref (am 14)) rfl d_M_sameCommitments_17 ?_
      refine lv_iconst (v := 2) hx hb d_M_sameCommitments_20 rfl ?_
      refine lv_iload_n hx hb d_M_sameCommitments_21 rfl (lv_at hl 0 rfl) ?_
      refine lv_imul hx hb d_M_sameCommitments_22 ?_
      refine zz_as (y := nI (2 * k)) (pk_mul 2 k) ?_
      refine mm_ald hx hb hK hP 13 (by decide) rfl (2 * k) rfl (show 2 * k < 16 from by omega) (ar 14 (2 * k)) (rfl) d_M_sameCommitments_23 ?_
      refine lv_aload_n hx hb d_M_sameCommitments_24 rfl (lv_at hl 2 rfl) ?_
      refine mm_get hx hb hts hown hK hP (index := 58) 16 (by decide) mf_M_58 (v := .ref (am 17)) rfl d_M_sameCommitments_25 ?_
      refine lv_iconst (v := 2) hx hb d_M_sameCommitments_28 rfl ?_
      refine lv_iload_n hx hb d_M_sameCommitments_29 rfl (lv_at hl 0 rfl) ?_
      refine lv_imul hx hb d_M_sameCommitments_30 ?_
      refine zz_as (y := nI (2 * k)) (pk_mul 2 k) ?_
      refine mm_ald hx hb hK hP 16 (by decide) rfl (2 * k) rfl (show 2 * k < 16 from by omega) (ar 17 (2 * k)) (rfl) d_M_sameCommitments_31 ?_
      refine lv_icmp_ne (tgt := 71) hx hb d_M_sameCommitments_32 rfl (fun h32 => ?_) (fun h32 => ?_)
      · skip
        have e0 : ¬ ar 14 (2 * k) = ar 17 (2 * k) := fun q => h32 (by rw [q])
        have hq : smAll ar (k + 1) = false := by show (smAll ar k && smB ar k) = false; unfold smB; rw [decide_eq_false e0, Bool.false_and, Bool.and_false]
        refine lv_iconst (v := 0) hx hb d_M_sameCommitments_71 rfl ?_
        refine lv_istore_n (lv' := [(1, .int 0), (2, .int (nI k)), (0, .ref (am 0))]) hx hb d_M_sameCommitments_72 rfl hl (by decide) rfl (fun ls hl => ?_)
        have hl : lv_has ls 3 [(1, .int (zb (smAll ar (k + 1)))), (2, .int (nI k)), (0, .ref (am 0))] := by rw [hq]; exact hl
        refine lv_iinc (k := 1) (v := nI (k + 1)) (lv' := [(2, .int (nI (k + 1))), (1, .int (zb (smAll ar (k + 1)))), (0, .ref (am 0))]) hx hb d_M_sameCommitments_73 hl rfl (nI_1 _) (by decide) rfl (fun ls hl => ?_)
        refine lv_goto (tgt := 4) hx hb d_M_sameCommitments_76 rfl ?_
        have hl := lv_sub (l' := [(2, .int (nI (k + 1))), (1, .int (zb (smAll ar (k + 1)))), (0, .ref (am 0))]) hl [0, 1, 2] rfl
        exact ih (k + 1) (by omega) ls hl
      · skip
        have e0 : ar 14 (2 * k) = ar 17 (2 * k) := (zn_inj (by omega) (by omega)).mp h32
        refine lv_aload_n hx hb d_M_sameCommitments_35 rfl (lv_at hl 2 rfl) ?_
        refine lv_iload_n hx hb d_M_sameCommitments_36 rfl (lv_at hl 0 rfl) ?_
        refine lv_iconst (v := 1) hx hb d_M_sameCommitments_37 rfl ?_
        refine zz_cV (index := 138) (n := 2) (As := [.int (nI k), .int 1]) (rest := []) ⟨hx, hb, hml, hown, hts⟩ (k_isPairM l D ca am (ar) k 1 (by omega) (by decide) hl2 hbs) mk_M_138 mo_M_isPair me_M_M_isPair_M mi_M mc_M_isPair (by decide +kernel) ⟨rfl, rfl⟩ ⟨Nat.le_trans (by decide) hRf, Nat.le_trans (by decide) hRl⟩ (mm_pre hK hP) rfl hl.1 rfl (Nat.le_of_ble_eq_true rfl) d_M_sameCommitments_38 ⟨hc, hsl⟩ ?_
        refine lv_if_eq (tgt := 67) hx hb d_M_sameCommitments_41 rfl (fun h41 => ?_) (fun h41 => ?_)
        · skip
          have hp := pairB_f hN (zb_eq h41)
          have hq : smAll ar (k + 1) = true := by show (smAll ar k && smB ar k) = true; unfold smB; rw [hs, decide_eq_true e0, decide_eq_false hp]; rfl
          refine lv_iconst (v := 1) hx hb d_M_sameCommitments_67 rfl ?_
          refine lv_goto (tgt := 72) hx hb d_M_sameCommitments_68 rfl ?_
          refine lv_istore_n (lv' := [(1, .int 1), (2, .int (nI k)), (0, .ref (am 0))]) hx hb d_M_sameCommitments_72 rfl hl (by decide) rfl (fun ls hl => ?_)
          have hl : lv_has ls 3 [(1, .int (zb (smAll ar (k + 1)))), (2, .int (nI k)), (0, .ref (am 0))] := by rw [hq]; exact hl
          refine lv_iinc (k := 1) (v := nI (k + 1)) (lv' := [(2, .int (nI (k + 1))), (1, .int (zb (smAll ar (k + 1)))), (0, .ref (am 0))]) hx hb d_M_sameCommitments_73 hl rfl (nI_1 _) (by decide) rfl (fun ls hl => ?_)
          refine lv_goto (tgt := 4) hx hb d_M_sameCommitments_76 rfl ?_
          have hl := lv_sub (l' := [(2, .int (nI (k + 1))), (1, .int (zb (smAll ar (k + 1)))), (0, .ref (am 0))]) hl [0, 1, 2] rfl
          exact ih (k + 1) (by omega) ls hl
        · skip
          have hp := (pairB_t (zb_ne h41)).2
          refine lv_aload_n hx hb d_M_sameCommitments_44 rfl (lv_at hl 2 rfl) ?_
          refine mm_get hx hb hts hown hK hP (index := 49) 13 (by decide) mf_M_49 (v := .ref (am 14)) rfl d_M_sameCommitments_45 ?_
          refine lv_iconst (v := 2) hx hb d_M_sameCommitments_48 rfl ?_
          refine lv_iload_n hx hb d_M_sameCommitments_49 rfl (lv_at hl 0 rfl) ?_
          refine lv_imul hx hb d_M_sameCommitments_50 ?_
          refine zz_as (y := nI (2 * k)) (pk_mul 2 k) ?_
          refine lv_iconst (v := 1) hx hb d_M_sameCommitments_51 rfl ?_
          refine lv_iadd hx hb d_M_sameCommitments_52 ?_
          refine zz_as (y := nI ((2 * k) + 1)) (nI_add (2 * k) 1) ?_
          refine mm_ald hx hb hK hP 13 (by decide) rfl ((2 * k) + 1) rfl (show (2 * k) + 1 < 16 from by omega) (ar 14 ((2 * k) + 1)) (rfl) d_M_sameCommitments_53 ?_
          refine lv_aload_n hx hb d_M_sameCommitments_54 rfl (lv_at hl 2 rfl) ?_
          refine mm_get hx hb hts hown hK hP (index := 58) 16 (by decide) mf_M_58 (v := .ref (am 17)) rfl d_M_sameCommitments_55 ?_
          refine lv_iconst (v := 2) hx hb d_M_sameCommitments_58 rfl ?_
          refine lv_iload_n hx hb d_M_sameCommitments_59 rfl (lv_at hl 0 rfl) ?_
          refine lv_imul hx hb d_M_sameCommitments_60 ?_
          refine zz_as (y := nI (2 * k)) (pk_mul 2 k) ?_
          refine lv_iconst (v := 1) hx hb d_M_sameCommitments_61 rfl ?_
          refine lv_iadd hx hb d_M_sameCommitments_62 ?_
          refine zz_as (y := nI ((2 * k) + 1)) (nI_add (2 * k) 1) ?_
          refine mm_ald hx hb hK hP 16 (by decide) rfl ((2 * k) + 1) rfl (show (2 * k) + 1 < 16 from by omega) (ar 17 ((2 * k) + 1)) (rfl) d_M_sameCommitments_63 ?_
          refine lv_icmp_ne (tgt := 71) hx hb d_M_sameCommitments_64 rfl (fun h64 => ?_) (fun h64 => ?_)
          · skip
            have e1 : ¬ ar 14 (2 * k + 1) = ar 17 (2 * k + 1) := fun q => h64 (by rw [q])
            have hq : smAll ar (k + 1) = false := by show (smAll ar k && smB ar k) = false; unfold smB; rw [decide_eq_false e1, decide_eq_true hp, Bool.not_true, Bool.or_false, Bool.and_false, Bool.and_false]
            refine lv_iconst (v := 0) hx hb d_M_sameCommitments_71 rfl ?_
            refine lv_istore_n (lv' := [(1, .int 0), (2, .int (nI k)), (0, .ref (am 0))]) hx hb d_M_sameCommitments_72 rfl hl (by decide) rfl (fun ls hl => ?_)
            have hl : lv_has ls 3 [(1, .int (zb (smAll ar (k + 1)))), (2, .int (nI k)), (0, .ref (am 0))] := by rw [hq]; exact hl
            refine lv_iinc (k := 1) (v := nI (k + 1)) (lv' := [(2, .int (nI (k + 1))), (1, .int (zb (smAll ar (k + 1)))), (0, .ref (am 0))]) hx hb d_M_sameCommitments_73 hl rfl (nI_1 _) (by decide) rfl (fun ls hl => ?_)
            refine lv_goto (tgt := 4) hx hb d_M_sameCommitments_76 rfl ?_
            have hl := lv_sub (l' := [(2, .int (nI (k + 1))), (1, .int (zb (smAll ar (k + 1)))), (0, .ref (am 0))]) hl [0, 1, 2] rfl
            exact ih (k + 1) (by omega) ls hl
          · skip
            have e1 : ar 14 (2 * k + 1) = ar 17 (2 * k + 1) := (zn_inj (by omega) (by omega)).mp h64
            have hq : smAll ar (k + 1) = true := by show (smAll ar k && smB ar k) = true; unfold smB; rw [hs, decide_eq_true e0, decide_eq_true e1, Bool.or_true]; rfl
            refine lv_iconst (v := 1) hx hb d_M_sameCommitments_67 rfl ?_
            refine lv_goto (tgt := 72) hx hb d_M_sameCommitments_68 rfl ?_
            refine lv_istore_n (lv' := [(1, .int 1), (2, .int (nI k)), (0, .ref (am 0))]) hx hb d_M_sameCommitments_72 rfl hl (by decide) rfl (fun ls hl => ?_)
            have hl : lv_has ls 3 [(1, .int (zb (smAll ar (k + 1)))), (2, .int (nI k)), (0, .ref (am 0))] := by rw [hq]; exact hl
            refine lv_iinc (k := 1) (v := nI (k + 1)) (lv' := [(2, .int (nI (k + 1))), (1, .int (zb (smAll ar (k + 1)))), (0, .ref (am 0))]) hx hb d_M_sameCommitments_73 hl rfl (nI_1 _) (by decide) rfl (fun ls hl => ?_)
            refine lv_goto (tgt := 4) hx hb d_M_sameCommitments_76 rfl ?_
            have hl := lv_sub (l' := [(2, .int (nI (k + 1))), (1, .int (zb (smAll ar (k + 1)))), (0, .ref (am 0))]) hl [0, 1, 2] rfl
            exact ih (k + 1) (by omega) ls hl
end MQ

set_option maxHeartbeats 4000000 in
set_option maxRecDepth 100000 in
/-- sameCommitments() -/
theorem k_sameM (l : Launch) (D : va_G) (ca : Nat → ClassId) (am : Nat → Nat) (ar : Nat → Nat → Nat) (hI : mI am) (hl2 : ar 0 2 ≤ 8) (hN8 : tN ar) (hbs : ∀ i, i < 16 → ar 11 i < 10007) : Met l y_M_sameCommitments (Cond.code y_M_sameCommitments c_M_sameCommitments 3 (some .boolean) :: zT) ({ frames := 3, cells := 0, slots := 0, locals := 120 }) (va_Pc [.ref (am 0)] (mw D ca am ar)) (QcRead (zb (smAll ar (ar 0 2)))) 0 0 (fun _ => False) := by
  refine Met.ofW (cc := c_M_sameCommitments) (maxL := 3) (ret := (some .boolean)) (by decide) rfl ?_
  intro p e s m args below meth c s₁ B hml hv
  obtain ⟨rfl, hK, hP⟩ := hv
  have hx := B.exec
  have hb := B.bytes
  have hr := B.returns
  have hts0 := atoms_spec (ws := Cond.code y_M_sameCommitments c_M_sameCommitments 3 (some .boolean) :: zT) B.pre
  have hts := fun w h => hts0 w (List.mem_cons_of_mem _ h)
  have hown : s.vm.findClass R_M = some m.cls := findClass_of_methodNamed B.named
  have hlocks := B.notSynchronized
  have hl := lv_entry ([.ref (am 0)]) (n := 3) (Nat.le_of_ble_eq_true rfl)
  rw [lg_entry_eq]
  generalize (lg_sl ([.ref (am 0)]) ++ List.replicate (3 - (lg_sl ([.ref (am 0)])).length) Slot.unset).toArray = ls at hl ⊢
  have hl : lv_has ls 3 [(0, .ref (am 0))] := hl
  refine lv_iconst (v := 1) hx hb d_M_sameCommitments_0 rfl ?_
  refine lv_istore_n (lv' := [(1, .int 1), (0, .ref (am 0))]) hx hb d_M_sameCommitments_1 rfl hl (by decide) rfl (fun ls hl => ?_)
  refine lv_iconst (v := 0) hx hb d_M_sameCommitments_2 rfl ?_
  refine lv_istore_n (lv' := [(2, .int 0), (1, .int 1), (0, .ref (am 0))]) hx hb d_M_sameCommitments_3 rfl hl (by decide) rfl (fun ls hl => ?_)
  have hl : lv_has ls 3 [(2, .int (nI 0)), (1, .int (zb (smAll ar 0))), (0, .ref (am 0))] := hl
  refine same_loop hx hb hml hown hts hK (mI_D hI) hI (fun _ q => q) (by decide) (by decide) (Nat.zero_le _) (Nat.zero_le _) hl2 hN8 hbs hP (fun ls hl => ?_) (ar 0 2) 0 (Nat.zero_add _) ls hl
  refine lv_iload_n hx hb d_M_sameCommitments_79 rfl (lv_at hl 0 rfl) ?_
  exact W.zret hx hb hr (zb_nar _) (fun t ht hW => ⟨rfl, ht⟩) (fun q h => absurd h List.not_mem_nil) d_M_sameCommitments_80
end
section
/-! the model's extract, prove, join -/
theorem acAll_up (ar : Nat → Nat → Nat) (h : Nat → Nat) (old : Bool) (n : Nat) : acAll (va_up ar 26 h) old n = acAll ar old n := by
  induction n with
  | zero => rfl
  | succ n ih => show (acAll (va_up ar 26 h) old n && acB (va_up ar 26 h) old n) = (acAll ar old n && acB ar old n); rw [ih, acB_up]
theorem smAll_up (ar : Nat → Nat → Nat) (h : Nat → Nat) (n : Nat) : smAll (va_up ar 26 h) n = smAll ar n := by
  induction n with
  | zero => rfl
  | succ n ih => show (smAll (va_up ar 26 h) n && smB (va_up ar 26 h) n) = (smAll ar n && smB ar n); rw [ih]; rfl
theorem vv_up (ar : Nat → Nat → Nat) (h g : Nat → Nat) (old : Bool) (k : Nat) : vv (va_up ar 26 h) (cR old) g k = vv ar (cR old) g k := by cases old <;> rfl
theorem accP_up {ar : Nat → Nat → Nat} {h : Nat → Nat} {old b : Bool} (q : accP (va_up ar 26 h) old b) : accP ar old b := by
  obtain ⟨g, h1, h2, h3⟩ := q
  refine ⟨g, fun k hk => ?_, h2, ?_⟩
  · rw [← vv_up ar h]; exact h1 k hk
  · rw [← acAll_up ar h]; exact h3
def xP (ar : Nat → Nat → Nat) (ok : Bool) : Prop := (ar 0 3 = 0 ∧ ok = false) ∨ (ar 0 3 = 1 ∧ ((accP ar false false ∧ ok = false) ∨ (accP ar false true ∧ ((accP ar true false ∧ ok = false) ∨ (accP ar true true ∧ ok = smAll ar (ar 0 2))))))
theorem exR_z {ar : Nat → Nat → Nat} {k : Nat} (e : ls5 (ar 15 k) (ar 18 k) = 0) : exR ar (k + 1) = exR ar k := by
  show (if _ then _ else _) = _; rw [if_pos e]
theorem exR_s {ar : Nat → Nat → Nat} {k : Nat} (e : ¬ ls5 (ar 15 k) (ar 18 k) = 0) : exR ar (k + 1) = va_up (exR ar k) k (exV ar k) := by
  show (if _ then _ else _) = _; rw [if_neg e]
theorem exN_z {ar : Nat → Nat → Nat} {k : Nat} (e : ls5 (ar 15 k) (ar 18 k) = 0) : exN ar (k + 1) = exN ar k := by
  show (if _ then _ else _) = _; rw [if_pos e]
theorem exN_s {ar : Nat → Nat → Nat} {k : Nat} (e : ¬ ls5 (ar 15 k) (ar 18 k) = 0) : exN ar (k + 1) = exN ar k + 1 := by
  show (if _ then _ else _) = _; rw [if_neg e]
theorem kOK_uniq {ar : Nat → Nat → Nat} {h g : Nat → Nat} (hT : tT ar) (h1 : kOK ar h (ar 0 1)) (h2 : kOK ar g (ar 0 1)) : ∀ k, k < ar 0 1 → g k = h k := by
  intro k
  induction k using Nat.strongRecOn with
  | ind k ih =>
    intro hk
    rw [h1 k hk, h2 k hk]
    exact kv_cg (fun z => (hT.2.2 k hk).2.2 z) (fun i hi => ih i hi (by omega))
theorem vOK_uniq {ar : Nat → Nat → Nat} {cr : Nat} {h g : Nat → Nat} (hT : tT ar) (h1 : vOK ar cr h (ar 0 1)) (h2 : vOK ar cr g (ar 0 1)) : ∀ k, k < ar 0 1 → g k = h k := by
  intro k
  induction k using Nat.strongRecOn with
  | ind k ih =>
    intro hk
    rw [h1 k hk, h2 k hk]
    exact vv_cg (fun z => (hT.2.2 k hk).2.2 z) (fun i hi => ih i hi (by omega))
/-- what a commitment leaves behind: the rows that it doesn't write -/
def cmt (ar : Nat → Nat → Nat) (real : Bool) (c0 sd : Nat) (h2 : Nat → Nat) (sc : Nat → Nat → Nat) (v : Nat) : Nat → Nat → Nat := zs (mix (cm (ar 7) (ar 8) (ar 9) (ar 10) (ar 0 1 - 1) real c0 (va_up (zs ar 0 5 sd) 27 h2)) sc) 0 4 v
theorem cmt_row {ar : Nat → Nat → Nat} {real : Bool} {c0 sd : Nat} {h2 : Nat → Nat} {sc : Nat → Nat → Nat} {v j : Nat} (h : cRow j) (h23 : j ≠ 23 ∧ j ≠ 24 ∧ j ≠ 25 ∧ j ≠ 27) : cmt ar real c0 sd h2 sc v j = ar j := by
  unfold cmt
  rw [zs_row _ _ _ h.1]
  have e : mix (cm (ar 7) (ar 8) (ar 9) (ar 10) (ar 0 1 - 1) real c0 (va_up (zs ar 0 5 sd) 27 h2)) sc j = cm (ar 7) (ar 8) (ar 9) (ar 10) (ar 0 1 - 1) real c0 (va_up (zs ar 0 5 sd) 27 h2) j := by
    funext i
    unfold mix
    rw [if_neg (by have := h.1; omega)]
  rw [e, cm_row h, va_up_ne _ _ h23.2.2.2, zs_row _ _ _ h.1]
theorem cmt_0 {ar : Nat → Nat → Nat} {real : Bool} {c0 sd : Nat} {h2 : Nat → Nat} {sc : Nat → Nat → Nat} {v i : Nat} (h : i ≠ 4 ∧ i ≠ 5 ∧ i ≠ 6) : cmt ar real c0 sd h2 sc v 0 i = ar 0 i := by
  unfold cmt
  rw [zs_ni _ _ _ _ h.1]
  unfold mix
  rw [if_neg (by omega), cm_0 h.2.1, va_up_ne _ _ (by decide), zs_ni _ _ _ _ h.2.1]
theorem tT_of {ar a : Nat → Nat → Nat} (hT : tT ar) (h01 : a 0 1 = ar 0 1) (h02 : a 0 2 = ar 0 2) (h7 : a 7 = ar 7) (h8 : a 8 = ar 8) (h9 : a 9 = ar 9) (h10 : a 10 = ar 10) : tT a := by
  unfold tT
  rw [h01, h02, h7, h8, h9, h10]; exact hT

theorem d_M_extract_0 : decode c_M_extract 0 = .ok (.aload_n 0, 1) := by decide +kernel
theorem d_M_extract_1 : decode c_M_extract 1 = .ok (.getfield 122, 3) := by decide +kernel
theorem d_M_extract_4 : decode c_M_extract 4 = .ok (.ifCond .ne 6, 3) := by decide +kernel
theorem d_M_extract_7 : decode c_M_extract 7 = .ok (.bipush (-2), 2) := by decide +kernel
theorem d_M_extract_9 : decode c_M_extract 9 = .ok (.ireturn, 1) := by decide +kernel
theorem d_M_extract_10 : decode c_M_extract 10 = .ok (.aload_n 0, 1) := by decide +kernel
theorem d_M_extract_11 : decode c_M_extract 11 = .ok (.getfield 128, 3) := by decide +kernel
theorem d_M_extract_14 : decode c_M_extract 14 = .ok (.ifCond .eq 26, 3) := by decide +kernel
theorem d_M_extract_17 : decode c_M_extract 17 = .ok (.aload_n 0, 1) := by decide +kernel
theorem d_M_extract_18 : decode c_M_extract 18 = .ok (.iconst 0, 1) := by decide +kernel
theorem d_M_extract_19 : decode c_M_extract 19 = .ok (.invokevirtual 197, 3) := by decide +kernel
theorem d_M_extract_22 : decode c_M_extract 22 = .ok (.ifCond .eq 18, 3) := by decide +kernel
theorem d_M_extract_25 : decode c_M_extract 25 = .ok (.aload_n 0, 1) := by decide +kernel
theorem d_M_extract_26 : decode c_M_extract 26 = .ok (.iconst 1, 1) := by decide +kernel
theorem d_M_extract_27 : decode c_M_extract 27 = .ok (.invokevirtual 197, 3) := by decide +kernel
theorem d_M_extract_30 : decode c_M_extract 30 = .ok (.ifCond .eq 10, 3) := by decide +kernel
theorem d_M_extract_33 : decode c_M_extract 33 = .ok (.aload_n 0, 1) := by decide +kernel
theorem d_M_extract_34 : decode c_M_extract 34 = .ok (.invokevirtual 204, 3) := by decide +kernel
theorem d_M_extract_37 : decode c_M_extract 37 = .ok (.ifCond .ne 6, 3) := by decide +kernel
theorem d_M_extract_40 : decode c_M_extract 40 = .ok (.bipush (-4), 2) := by decide +kernel
theorem d_M_extract_42 : decode c_M_extract 42 = .ok (.ireturn, 1) := by decide +kernel
theorem d_M_extract_43 : decode c_M_extract 43 = .ok (.iconst 0, 1) := by decide +kernel
theorem d_M_extract_44 : decode c_M_extract 44 = .ok (.istore_n 1, 1) := by decide +kernel
theorem d_M_extract_45 : decode c_M_extract 45 = .ok (.iconst 0, 1) := by decide +kernel
theorem d_M_extract_46 : decode c_M_extract 46 = .ok (.istore_n 2, 1) := by decide +kernel
theorem d_M_extract_47 : decode c_M_extract 47 = .ok (.iload_n 2, 1) := by decide +kernel
theorem d_M_extract_48 : decode c_M_extract 48 = .ok (.aload_n 0, 1) := by decide +kernel
theorem d_M_extract_49 : decode c_M_extract 49 = .ok (.getfield 125, 3) := by decide +kernel
theorem d_M_extract_52 : decode c_M_extract 52 = .ok (.if_icmp .ge 67, 3) := by decide +kernel
theorem d_M_extract_55 : decode c_M_extract 55 = .ok (.aload_n 0, 1) := by decide +kernel
theorem d_M_extract_56 : decode c_M_extract 56 = .ok (.getfield 52, 3) := by decide +kernel
theorem d_M_extract_59 : decode c_M_extract 59 = .ok (.iload_n 2, 1) := by decide +kernel
theorem d_M_extract_60 : decode c_M_extract 60 = .ok (.iaload, 1) := by decide +kernel
theorem d_M_extract_61 : decode c_M_extract 61 = .ok (.aload_n 0, 1) := by decide +kernel
theorem d_M_extract_62 : decode c_M_extract 62 = .ok (.getfield 61, 3) := by decide +kernel
theorem d_M_extract_65 : decode c_M_extract 65 = .ok (.iload_n 2, 1) := by decide +kernel
theorem d_M_extract_66 : decode c_M_extract 66 = .ok (.iaload, 1) := by decide +kernel
theorem d_M_extract_67 : decode c_M_extract 67 = .ok (.invokestatic 152, 3) := by decide +kernel
theorem d_M_extract_70 : decode c_M_extract 70 = .ok (.istore_n 3, 1) := by decide +kernel
theorem d_M_extract_71 : decode c_M_extract 71 = .ok (.iload_n 3, 1) := by decide +kernel
theorem d_M_extract_72 : decode c_M_extract 72 = .ok (.ifCond .eq 41, 3) := by decide +kernel
theorem d_M_extract_75 : decode c_M_extract 75 = .ok (.iload_n 3, 1) := by decide +kernel
theorem d_M_extract_76 : decode c_M_extract 76 = .ok (.invokestatic 207, 3) := by decide +kernel
theorem d_M_extract_79 : decode c_M_extract 79 = .ok (.istore 4, 2) := by decide +kernel
theorem d_M_extract_81 : decode c_M_extract 81 = .ok (.aload_n 0, 1) := by decide +kernel
theorem d_M_extract_82 : decode c_M_extract 82 = .ok (.getfield 46, 3) := by decide +kernel
theorem d_M_extract_85 : decode c_M_extract 85 = .ok (.iload_n 2, 1) := by decide +kernel
theorem d_M_extract_86 : decode c_M_extract 86 = .ok (.aload_n 0, 1) := by decide +kernel
theorem d_M_extract_87 : decode c_M_extract 87 = .ok (.getfield 55, 3) := by decide +kernel
theorem d_M_extract_90 : decode c_M_extract 90 = .ok (.iload_n 2, 1) := by decide +kernel
theorem d_M_extract_91 : decode c_M_extract 91 = .ok (.iaload, 1) := by decide +kernel
theorem d_M_extract_92 : decode c_M_extract 92 = .ok (.aload_n 0, 1) := by decide +kernel
theorem d_M_extract_93 : decode c_M_extract 93 = .ok (.getfield 64, 3) := by decide +kernel
theorem d_M_extract_96 : decode c_M_extract 96 = .ok (.iload_n 2, 1) := by decide +kernel
theorem d_M_extract_97 : decode c_M_extract 97 = .ok (.iaload, 1) := by decide +kernel
theorem d_M_extract_98 : decode c_M_extract 98 = .ok (.invokestatic 152, 3) := by decide +kernel
theorem d_M_extract_101 : decode c_M_extract 101 = .ok (.iload 4, 2) := by decide +kernel
theorem d_M_extract_103 : decode c_M_extract 103 = .ok (.sipush 5003, 3) := by decide +kernel
theorem d_M_extract_106 : decode c_M_extract 106 = .ok (.invokestatic 92, 3) := by decide +kernel
theorem d_M_extract_109 : decode c_M_extract 109 = .ok (.iastore, 1) := by decide +kernel
theorem d_M_extract_110 : decode c_M_extract 110 = .ok (.iinc 1 1, 3) := by decide +kernel
theorem d_M_extract_113 : decode c_M_extract 113 = .ok (.iinc 2 1, 3) := by decide +kernel
theorem d_M_extract_116 : decode c_M_extract 116 = .ok (.goto (-69), 3) := by decide +kernel
theorem d_M_extract_119 : decode c_M_extract 119 = .ok (.iload_n 1, 1) := by decide +kernel
theorem d_M_extract_120 : decode c_M_extract 120 = .ok (.ireturn, 1) := by decide +kernel

section MX
variable {p : Program} {l : Launch} {e : Env} {R : Room} {s : State} {m : MethodId} {args : Array Value} {below : List Frame} {meth : Method} {c : Code} {H0 : Heap} {cells slots : Nat} {Q : State → Prop} {A : Nat → Prop} {D : va_G} {ca : Nat → ClassId} {am : Nat → Nat} {ar : Nat → Nat → Nat}
set_option maxHeartbeats 4000000 in
set_option maxRecDepth 100000 in
theorem extract_loop (hx : p.tables.exec = Jvm.exec) (hb : c.code = c_M_extract) (hml : c.maxLocals = 5) (hown : s.vm.findClass R_M = some m.cls) (hts : ∀ w ∈ zT, w.before args s = true) (hK : va_K D zC (zty ca) s) (hD : zD A 28 am) (hI : mI am) (hAA : ∀ q, mA am q → A q) (hRf : 5 ≤ R.frames) (hRl : 200 ≤ R.locals) (hc : cells ≤ R.cells) (hsl : slots ≤ R.slots) {h : Nat → Nat} (hl2 : ar 0 2 ≤ 8) (hN8 : tN ar) (kk : ∀ (H : Heap) (locs : List Loc) (ls : Array Slot), va_P D zC (zl 28 am (mct ca am (va_up (va_up ar 26 h) 13 (exR ar (ar 0 2))))) H → va_S A H0 H locs → lv_has ls 5 [(1, .int (nI (exN ar (ar 0 2))))] → W p l e R s m args below meth c H locs cells slots Q (F0 m 119 ls [])) : ∀ (j k : Nat), k + j = ar 0 2 → ∀ (H : Heap) (locs : List Loc) (ls : Array Slot), va_P D zC (zl 28 am (mct ca am (va_up (va_up ar 26 h) 13 (exR ar k)))) H → va_S A H0 H locs → lv_has ls 5 [(2, .int (nI k)), (1, .int (nI (exN ar k))), (0, .ref (am 0))] → W p l e R s m args below meth c H locs cells slots Q (F0 m 47 ls []) := by
  intro j
  induction j with
  | zero =>
    intro k hk H locs ls hP hS hl
    obtain rfl : k = ar 0 2 := by omega
    refine lv_iload_n hx hb d_M_extract_47 rfl (lv_at hl 0 rfl) ?_
    refine lv_aload_n hx hb d_M_extract_48 rfl (lv_at hl 2 rfl) ?_
    refine mm_get hx hb hts hown hK hP (index := 125) 29 (by decide) mf_M_125 (v := .int (nI (ar 0 2))) rfl d_M_extract_49 ?_
    refine lv_icmp_ge (tgt := 119) hx hb d_M_extract_52 rfl (fun h52 => ?_) (fun h52 => absurd (Int32.le_refl _) h52)
    have hl := lv_sub (l' := [(1, .int (nI (exN ar (ar 0 2))))]) hl [1] rfl
    exact kk H locs ls hP hS hl
  | succ j ih =>
    intro k hk H locs ls hP hS hl
    have hN : k < ar 0 2 := by omega
    have hb8 := hN8.2 k (by omega)
    have hD1 : ls5 (ar 15 k) (ar 18 k) < 5003 := ls5_lt _ _
    have hD2 : ls5 (ar 16 k) (ar 19 k) < 5003 := ls5_lt _ _
    refine lv_iload_n hx hb d_M_extract_47 rfl (lv_at hl 0 rfl) ?_
    refine lv_aload_n hx hb d_M_extract_48 rfl (lv_at hl 2 rfl) ?_
    refine mm_get hx hb hts hown hK hP (index := 125) 29 (by decide) mf_M_125 (v := .int (nI (ar 0 2))) rfl d_M_extract_49 ?_
    refine lv_icmp_ge (tgt := 119) hx hb d_M_extract_52 rfl (fun h52 => absurd h52 (nI_ge hN (by omega))) (fun h52 => ?_)
    refine lv_aload_n hx hb d_M_extract_55 rfl (lv_at hl 2 rfl) ?_
    refine mm_get hx hb hts hown hK hP (index := 52) 14 (by decide) mf_M_52 (v := .ref (am 15)) rfl d_M_extract_56 ?_
    refine lv_iload_n hx hb d_M_extract_59 rfl (lv_at hl 0 rfl) ?_
    refine mm_ald hx hb hK hP 14 (by decide) rfl (k) rfl (show k < 8 from by omega) (ar 15 k) (rfl) d_M_extract_60 ?_
    refine lv_aload_n hx hb d_M_extract_61 rfl (lv_at hl 2 rfl) ?_
    refine mm_get hx hb hts hown hK hP (index := 61) 17 (by decide) mf_M_61 (v := .ref (am 18)) rfl d_M_extract_62 ?_
    refine lv_iload_n hx hb d_M_extract_65 rfl (lv_at hl 0 rfl) ?_
    refine mm_ald hx hb hK hP 17 (by decide) rfl (k) rfl (show k < 8 from by omega) (ar 18 k) (rfl) d_M_extract_66 ?_
    refine zz_cS (index := 152) (n := 2) (As := [.int (nI (ar 15 k)), .int (nI (ar 18 k))]) (rest := []) ⟨hx, hb, hml, hown, hts⟩ (k_less l (ar 15 k) (ar 18 k) (by omega) (by omega)) mk_M_152 ms_M_less mi_M mc_M_less (by decide +kernel) ⟨rfl, rfl⟩ ⟨Nat.le_trans (by decide) hRf, Nat.le_trans (by decide) hRl⟩ preEq rfl hl.1 rfl (Nat.le_of_ble_eq_true rfl) d_M_extract_67 ⟨hc, hsl⟩ ?_
    refine lv_istore_n (lv' := [(3, .int (nI (ls5 (ar 15 k) (ar 18 k)))), (2, .int (nI k)), (1, .int (nI (exN ar k))), (0, .ref (am 0))]) hx hb d_M_extract_70 rfl hl (by decide) rfl (fun ls hl => ?_)
    refine lv_iload_n hx hb d_M_extract_71 rfl (lv_at hl 0 rfl) ?_
    refine lv_if_eq (tgt := 113) hx hb d_M_extract_72 rfl (fun h72 => ?_) (fun h72 => ?_)
    · skip
      have e0 : ls5 (ar 15 k) (ar 18 k) = 0 := (zn_inj (by omega) (by decide)).mp h72
      refine lv_iinc (k := 1) (v := nI (k + 1)) (lv' := [(2, .int (nI (k + 1))), (3, .int (nI (ls5 (ar 15 k) (ar 18 k)))), (1, .int (nI (exN ar k))), (0, .ref (am 0))]) hx hb d_M_extract_113 hl rfl (nI_1 _) (by decide) rfl (fun ls hl => ?_)
      refine lv_goto (tgt := 47) hx hb d_M_extract_116 rfl ?_
      have hl : lv_has ls 5 [(2, .int (nI (k + 1))), (3, .int (nI (ls5 (ar 15 k) (ar 18 k)))), (1, .int (nI (exN ar (k + 1)))), (0, .ref (am 0))] := by rw [exN_z e0]; exact hl
      have hl := lv_sub (l' := [(2, .int (nI (k + 1))), (1, .int (nI (exN ar (k + 1)))), (0, .ref (am 0))]) hl [0, 2, 3] rfl
      exact ih (k + 1) (by omega) H locs ls (by rw [exR_z e0]; exact hP) hS hl
    · skip
      have e0 : ¬ ls5 (ar 15 k) (ar 18 k) = 0 := fun q => h72 (by rw [q]; rfl)
      refine lv_iload_n hx hb d_M_extract_75 rfl (lv_at hl 0 rfl) ?_
      refine zz_cS (index := 207) (n := 1) (As := [.int (nI (ls5 (ar 15 k) (ar 18 k)))]) (rest := []) ⟨hx, hb, hml, hown, hts⟩ (k_inverse l (ls5 (ar 15 k) (ar 18 k)) hD1) mk_M_207 ms_M_inverse mi_M mc_M_inverse (by decide +kernel) ⟨rfl, rfl⟩ ⟨Nat.le_trans (by decide) hRf, Nat.le_trans (by decide) hRl⟩ preEq rfl hl.1 rfl (Nat.le_of_ble_eq_true rfl) d_M_extract_76 ⟨hc, hsl⟩ ?_
      refine lv_istore (lv' := [(4, .int (nI (ls5 (ar 15 k) (ar 18 k) ^ 5001 % 5003))), (3, .int (nI (ls5 (ar 15 k) (ar 18 k)))), (2, .int (nI k)), (1, .int (nI (exN ar k))), (0, .ref (am 0))]) hx hb d_M_extract_79 hl (by decide) rfl (fun ls hl => ?_)
      refine lv_aload_n hx hb d_M_extract_81 rfl (lv_at hl 4 rfl) ?_
      refine mm_get hx hb hts hown hK hP (index := 46) 12 (by decide) mf_M_46 (v := .ref (am 13)) rfl d_M_extract_82 ?_
      refine lv_iload_n hx hb d_M_extract_85 rfl (lv_at hl 2 rfl) ?_
      refine lv_aload_n hx hb d_M_extract_86 rfl (lv_at hl 4 rfl) ?_
      refine mm_get hx hb hts hown hK hP (index := 55) 15 (by decide) mf_M_55 (v := .ref (am 16)) rfl d_M_extract_87 ?_
      refine lv_iload_n hx hb d_M_extract_90 rfl (lv_at hl 2 rfl) ?_
      refine mm_ald hx hb hK hP 15 (by decide) rfl (k) rfl (show k < 8 from by omega) (ar 16 k) (rfl) d_M_extract_91 ?_
      refine lv_aload_n hx hb d_M_extract_92 rfl (lv_at hl 4 rfl) ?_
      refine mm_get hx hb hts hown hK hP (index := 64) 18 (by decide) mf_M_64 (v := .ref (am 19)) rfl d_M_extract_93 ?_
      refine lv_iload_n hx hb d_M_extract_96 rfl (lv_at hl 2 rfl) ?_
      refine mm_ald hx hb hK hP 18 (by decide) rfl (k) rfl (show k < 8 from by omega) (ar 19 k) (rfl) d_M_extract_97 ?_
      refine zz_cS (index := 152) (n := 2) (As := [.int (nI (ar 16 k)), .int (nI (ar 19 k))]) (rest := [.int (nI k), .ref (am 13)]) ⟨hx, hb, hml, hown, hts⟩ (k_less l (ar 16 k) (ar 19 k) (by omega) (by omega)) mk_M_152 ms_M_less mi_M mc_M_less (by decide +kernel) ⟨rfl, rfl⟩ ⟨Nat.le_trans (by decide) hRf, Nat.le_trans (by decide) hRl⟩ preEq rfl hl.1 rfl (Nat.le_of_ble_eq_true rfl) d_M_extract_98 ⟨hc, hsl⟩ ?_
      refine lv_iload hx hb d_M_extract_101 (lv_at hl 0 rfl) ?_
      refine lv_sipush (v := 5003) hx hb d_M_extract_103 rfl ?_
      refine zz_cS (index := 92) (n := 3) (As := [.int (nI (ls5 (ar 16 k) (ar 19 k))), .int (nI (ls5 (ar 15 k) (ar 18 k) ^ 5001 % 5003)), .int 5003]) (rest := [.int (nI k), .ref (am 13)]) ⟨hx, hb, hml, hown, hts⟩ (k_times l (ls5 (ar 16 k) (ar 19 k)) (ls5 (ar 15 k) (ar 18 k) ^ 5001 % 5003) 5003 (by omega) (Nat.lt_trans (Nat.mod_lt _ (by decide)) (by decide)) (by decide) (by decide)) mk_M_92 ms_M_times mi_M mc_M_times (by decide +kernel) ⟨rfl, rfl⟩ ⟨Nat.le_trans (by decide) hRf, Nat.le_trans (by decide) hRl⟩ preEq rfl hl.1 rfl (Nat.le_of_ble_eq_true rfl) d_M_extract_106 ⟨hc, hsl⟩ ?_
      refine zz_as (y := nI (exV ar k)) (congrArg nI (by unfold exV; rfl)) ?_
      refine mm_ast hx hb hK hP hD hS 12 (by decide) rfl (k) rfl (show k < 8 from by omega) (exV ar k) (rfl) d_M_extract_109 (fun H locs hP hS => ?_)
      refine lv_iinc (k := 3) (v := nI ((exN ar k) + 1)) (lv' := [(1, .int (nI ((exN ar k) + 1))), (4, .int (nI (ls5 (ar 15 k) (ar 18 k) ^ 5001 % 5003))), (3, .int (nI (ls5 (ar 15 k) (ar 18 k)))), (2, .int (nI k)), (0, .ref (am 0))]) hx hb d_M_extract_110 hl rfl (nI_1 _) (by decide) rfl (fun ls hl => ?_)
      refine lv_iinc (k := 3) (v := nI (k + 1)) (lv' := [(2, .int (nI (k + 1))), (1, .int (nI ((exN ar k) + 1))), (4, .int (nI (ls5 (ar 15 k) (ar 18 k) ^ 5001 % 5003))), (3, .int (nI (ls5 (ar 15 k) (ar 18 k)))), (0, .ref (am 0))]) hx hb d_M_extract_113 hl rfl (nI_1 _) (by decide) rfl (fun ls hl => ?_)
      refine lv_goto (tgt := 47) hx hb d_M_extract_116 rfl ?_
      rw [zs_up] at hP
      have hl : lv_has ls 5 [(2, .int (nI (k + 1))), (1, .int (nI (exN ar (k + 1)))), (4, .int (nI (ls5 (ar 15 k) (ar 18 k) ^ 5001 % 5003))), (3, .int (nI (ls5 (ar 15 k) (ar 18 k)))), (0, .ref (am 0))] := by rw [exN_s e0]; exact hl
      have hl := lv_sub (l' := [(2, .int (nI (k + 1))), (1, .int (nI (exN ar (k + 1)))), (0, .ref (am 0))]) hl [0, 1, 4] rfl
      exact ih (k + 1) (by omega) H locs ls (by rw [exR_s e0]; exact hP) hS hl
end MX

set_option maxHeartbeats 4000000 in
set_option maxRecDepth 100000 in
/-- extract() -/
theorem k_extractM (l : Launch) (D : va_G) (ca : Nat → ClassId) (am : Nat → Nat) (ar : Nat → Nat → Nat) (hI : mI am) (hT : tT ar) (hN8 : tN ar) (hsv1 : ar 0 3 < 2) (hbs : ∀ i, i < 16 → ar 11 i < 10007) (his : ∀ i, i < 16 → ar 12 i < 10007) : Met l y_M_extract (Cond.code y_M_extract c_M_extract 5 (some .int) :: zT) ({ frames := 6, cells := 0, slots := 0, locals := 240 }) (va_Pc [.ref (am 0)] (mw D ca am ar)) (va_Qi (fun r ar1 => (ar 0 1 = 0 ∧ r = -2 ∧ ar1 = ar) ∨ (0 < ar 0 1 ∧ ∃ (h : Nat → Nat) (ok : Bool), xP ar ok ∧ ((ok = false ∧ r = -4 ∧ ar1 = va_up ar 26 h) ∨ (ok = true ∧ r = nI (exN ar (ar 0 2)) ∧ ar1 = va_up (va_up ar 26 h) 13 (exR ar (ar 0 2)))))) (mw D ca am) (mA am)) 0 0 (mA am) := by
  refine Met.ofW (cc := c_M_extract) (maxL := 5) (ret := (some .int)) (by decide) rfl ?_
  intro p e s m args below meth c s₁ B hml hv
  obtain ⟨rfl, hK, hP⟩ := hv
  have hx := B.exec
  have hb := B.bytes
  have hr := B.returns
  have hts0 := atoms_spec (ws := Cond.code y_M_extract c_M_extract 5 (some .int) :: zT) B.pre
  have hts := fun w h => hts0 w (List.mem_cons_of_mem _ h)
  have hown : s.vm.findClass R_M = some m.cls := findClass_of_methodNamed B.named
  have hlocks := B.notSynchronized
  have hD := mI_D hI
  have hS : va_S (mA am) s.heap s.heap [] := va_S.rf
  have hAA : ∀ q, mA am q → mA am q := fun _ h => h
  have hl := lv_entry ([.ref (am 0)]) (n := 5) (Nat.le_of_ble_eq_true rfl)
  rw [lg_entry_eq]
  generalize (lg_sl ([.ref (am 0)]) ++ List.replicate (5 - (lg_sl ([.ref (am 0)])).length) Slot.unset).toArray = ls at hl ⊢
  have hl : lv_has ls 5 [(0, .ref (am 0))] := hl
  skip
  refine lv_aload_n hx hb d_M_extract_0 rfl (lv_at hl 0 rfl) ?_
  refine mm_get hx hb hts hown hK hP (index := 122) 28 (by decide) mf_M_122 (v := .int (nI (ar 0 1))) rfl d_M_extract_1 ?_
  refine lv_if_ne (tgt := 10) hx hb d_M_extract_4 rfl (fun h4 => ?_) (fun h4 => ?_)
  · skip
    have z : ¬ ar 0 1 = 0 := fun q => h4 (by rw [q]; rfl)
    refine lv_aload_n hx hb d_M_extract_10 rfl (lv_at hl 0 rfl) ?_
    refine mm_get hx hb hts hown hK hP (index := 128) 30 (by decide) mf_M_128 (v := .int (nI (ar 0 3))) rfl d_M_extract_11 ?_
    refine lv_if_eq (tgt := 40) hx hb d_M_extract_14 rfl (fun h14 => ?_) (fun h14 => ?_)
    · skip
      have s0 := b_z hsv1 h14
      refine lv_bipush (v := (-4)) hx hb d_M_extract_40 rfl ?_
      exact W.iret hx hb hr (fun t ht hW => ⟨⟨_, ar, rfl, Or.inr ⟨by omega, ar 26, false, Or.inl ⟨s0, rfl⟩, Or.inl ⟨rfl, rfl, (va_up_row ar 26).symm⟩⟩, va_K.moved hW.alike hK, by rw [ht]; exact hP⟩, hS.F ht⟩) hS.2.2 d_M_extract_42
    · skip
      have s0 := b_o hsv1 h14
      refine lv_aload_n hx hb d_M_extract_17 rfl (lv_at hl 0 rfl) ?_
      refine lv_iconst (v := 0) hx hb d_M_extract_18 rfl ?_
      refine mm_ci (index := 197) (n := 1) (As := [.int 0]) (rest := []) ⟨hx, hb, hml, hown, hts⟩ (k_isAcceptedM l D ca am (ar) hI false hT hN8 (by omega) hbs his) mk_M_197 mo_M_isAccepted me_M_M_isAccepted_M mi_M mc_M_isAccepted (by decide +kernel) ⟨rfl, rfl⟩ ⟨by decide, by decide⟩ hK hP hS hAA rfl hl.1 rfl (Nat.le_of_ble_eq_true rfl) d_M_extract_19 ⟨Nat.zero_le _, Nat.zero_le _⟩ (fun r ar1 H locs hpost hP hS => ?_)
      obtain ⟨h, b0, hb0, rfl, rfl⟩ := hpost
      refine lv_if_eq (tgt := 40) hx hb d_M_extract_22 rfl (fun h22 => ?_) (fun h22 => ?_)
      · skip
        obtain rfl := zb_eq h22
        refine lv_bipush (v := (-4)) hx hb d_M_extract_40 rfl ?_
        exact W.iret hx hb hr (fun t ht hW => ⟨⟨_, va_up ar 26 h, rfl, Or.inr ⟨by omega, h, false, Or.inr ⟨s0, Or.inl ⟨hb0, rfl⟩⟩, Or.inl ⟨rfl, rfl, rfl⟩⟩, va_K.moved hW.alike hK, by rw [ht]; exact hP⟩, hS.F ht⟩) hS.2.2 d_M_extract_42
      · skip
        obtain rfl := zb_ne h22
        refine lv_aload_n hx hb d_M_extract_25 rfl (lv_at hl 0 rfl) ?_
        refine lv_iconst (v := 1) hx hb d_M_extract_26 rfl ?_
        refine mm_ci (index := 197) (n := 1) (As := [.int 1]) (rest := []) ⟨hx, hb, hml, hown, hts⟩ (k_isAcceptedM l D ca am (va_up ar 26 h) hI true hT hN8 (show 0 < ar 0 1 by omega) hbs his) mk_M_197 mo_M_isAccepted me_M_M_isAccepted_M mi_M mc_M_isAccepted (by decide +kernel) ⟨rfl, rfl⟩ ⟨by decide, by decide⟩ hK hP hS hAA rfl hl.1 rfl (Nat.le_of_ble_eq_true rfl) d_M_extract_27 ⟨Nat.zero_le _, Nat.zero_le _⟩ (fun r ar1 H locs hpost hP hS => ?_)
        obtain ⟨h9, b1, hb1, hpost, rfl⟩ := hpost
        rw [bx_uu] at hpost
        subst hpost
        have hb1 := accP_up hb1
        refine lv_if_eq (tgt := 40) hx hb d_M_extract_30 rfl (fun h30 => ?_) (fun h30 => ?_)
        · skip
          obtain rfl := zb_eq h30
          refine lv_bipush (v := (-4)) hx hb d_M_extract_40 rfl ?_
          exact W.iret hx hb hr (fun t ht hW => ⟨⟨_, va_up ar 26 h9, rfl, Or.inr ⟨by omega, h9, false, Or.inr ⟨s0, Or.inr ⟨hb0, Or.inl ⟨hb1, rfl⟩⟩⟩, Or.inl ⟨rfl, rfl, rfl⟩⟩, va_K.moved hW.alike hK, by rw [ht]; exact hP⟩, hS.F ht⟩) hS.2.2 d_M_extract_42
        · skip
          obtain rfl := zb_ne h30
          refine lv_aload_n hx hb d_M_extract_33 rfl (lv_at hl 0 rfl) ?_
          refine zz_cV (index := 204) (n := 0) (As := []) (rest := []) ⟨hx, hb, hml, hown, hts⟩ (k_sameM l D ca am (va_up ar 26 h9) hI hT.2.1 hN8 hbs) mk_M_204 mo_M_sameCommitments me_M_M_sameCommitments_M mi_M mc_M_sameCommitments (by decide +kernel) ⟨rfl, rfl⟩ ⟨by decide, by decide⟩ (mm_pre hK hP) rfl hl.1 rfl (Nat.le_of_ble_eq_true rfl) d_M_extract_34 ⟨Nat.zero_le _, Nat.zero_le _⟩ ?_
          refine zz_as (y := zb (smAll ar (ar 0 2))) (congrArg zb (smAll_up ..)) ?_
          refine lv_if_ne (tgt := 43) hx hb d_M_extract_37 rfl (fun h37 => ?_) (fun h37 => ?_)
          · skip
            have m0 := zb_ne h37
            refine lv_iconst (v := 0) hx hb d_M_extract_43 rfl ?_
            refine lv_istore_n (lv' := [(1, .int 0), (0, .ref (am 0))]) hx hb d_M_extract_44 rfl hl (by decide) rfl (fun ls hl => ?_)
            refine lv_iconst (v := 0) hx hb d_M_extract_45 rfl ?_
            refine lv_istore_n (lv' := [(2, .int 0), (1, .int 0), (0, .ref (am 0))]) hx hb d_M_extract_46 rfl hl (by decide) rfl (fun ls hl => ?_)
            have hP : va_P D zC (zl 28 am (mct ca am (va_up (va_up ar 26 h9) 13 (exR ar 0)))) H := by rw [show exR ar 0 = (va_up ar 26 h9) 13 from rfl, va_up_row]; exact hP
            have hl : lv_has ls 5 [(2, .int (nI 0)), (1, .int (nI (exN ar 0))), (0, .ref (am 0))] := hl
            refine extract_loop hx hb hml hown hts hK hD hI hAA (by decide) (by decide) (Nat.zero_le _) (Nat.zero_le _) hT.2.1 hN8 (fun H locs ls hP hS hl => ?_) (ar 0 2) 0 (Nat.zero_add _) H locs ls hP hS hl
            refine lv_iload_n hx hb d_M_extract_119 rfl (lv_at hl 0 rfl) ?_
            exact W.iret hx hb hr (fun t ht hW => ⟨⟨_, va_up (va_up ar 26 h9) 13 (exR ar (ar 0 2)), rfl, Or.inr ⟨by omega, h9, true, Or.inr ⟨s0, Or.inr ⟨hb0, Or.inr ⟨hb1, m0.symm⟩⟩⟩, Or.inr ⟨rfl, rfl, rfl⟩⟩, va_K.moved hW.alike hK, by rw [ht]; exact hP⟩, hS.F ht⟩) hS.2.2 d_M_extract_120
          · skip
            have m0 := zb_eq h37
            refine lv_bipush (v := (-4)) hx hb d_M_extract_40 rfl ?_
            exact W.iret hx hb hr (fun t ht hW => ⟨⟨_, va_up ar 26 h9, rfl, Or.inr ⟨by omega, h9, false, Or.inr ⟨s0, Or.inr ⟨hb0, Or.inr ⟨hb1, m0.symm⟩⟩⟩, Or.inl ⟨rfl, rfl, rfl⟩⟩, va_K.moved hW.alike hK, by rw [ht]; exact hP⟩, hS.F ht⟩) hS.2.2 d_M_extract_42
  · skip
    have z : ar 0 1 = 0 := (zn_inj (by have := hT.1; omega) (by decide)).mp h4
    refine lv_bipush (v := (-2)) hx hb d_M_extract_7 rfl ?_
    exact W.iret hx hb hr (fun t ht hW => ⟨⟨_, ar, rfl, Or.inl ⟨z, rfl, rfl⟩, va_K.moved hW.alike hK, by rw [ht]; exact hP⟩, hS.F ht⟩) hS.2.2 d_M_extract_9

theorem d_M_prove_0 : decode c_M_prove 0 = .ok (.aload_n 0, 1) := by decide +kernel
theorem d_M_prove_1 : decode c_M_prove 1 = .ok (.iload_n 1, 1) := by decide +kernel
theorem d_M_prove_2 : decode c_M_prove 2 = .ok (.invokevirtual 182, 3) := by decide +kernel
theorem d_M_prove_5 : decode c_M_prove 5 = .ok (.istore_n 2, 1) := by decide +kernel
theorem d_M_prove_6 : decode c_M_prove 6 = .ok (.iload_n 2, 1) := by decide +kernel
theorem d_M_prove_7 : decode c_M_prove 7 = .ok (.ifCond .ge 5, 3) := by decide +kernel
theorem d_M_prove_10 : decode c_M_prove 10 = .ok (.iload_n 2, 1) := by decide +kernel
theorem d_M_prove_11 : decode c_M_prove 11 = .ok (.ireturn, 1) := by decide +kernel
theorem d_M_prove_12 : decode c_M_prove 12 = .ok (.aload_n 0, 1) := by decide +kernel
theorem d_M_prove_13 : decode c_M_prove 13 = .ok (.invokevirtual 186, 3) := by decide +kernel
theorem d_M_prove_16 : decode c_M_prove 16 = .ok (.istore_n 3, 1) := by decide +kernel
theorem d_M_prove_17 : decode c_M_prove 17 = .ok (.aload_n 0, 1) := by decide +kernel
theorem d_M_prove_18 : decode c_M_prove 18 = .ok (.iload_n 3, 1) := by decide +kernel
theorem d_M_prove_19 : decode c_M_prove 19 = .ok (.invokevirtual 177, 3) := by decide +kernel
theorem d_M_prove_22 : decode c_M_prove 22 = .ok (.iload_n 3, 1) := by decide +kernel
theorem d_M_prove_23 : decode c_M_prove 23 = .ok (.ireturn, 1) := by decide +kernel

set_option maxHeartbeats 4000000 in
set_option maxRecDepth 100000 in
/-- prove(seed) -/
theorem k_proveM (l : Launch) (D : va_G) (ca : Nat → ClassId) (am : Nat → Nat) (ar : Nat → Nat → Nat) (hI : mI am) (sd : Nat) (lo : Nat → Nat) (hT : tT ar) (hw : ∀ i, i < 8 → ar 13 i < 2 ^ 32) (hI2 : tI (ar 7) (ar 8) (ar 9) lo (ar 0 1)) (hbs : ∀ i, i < 16 → ar 11 i < 10007) (his : ∀ i, i < 16 → ar 12 i < 10007) (hGp : ∀ (h2 : Nat → Nat) (sc ar1 : Nat → Nat → Nat), kOK ar h2 (ar 0 1) → (∀ k, k < ar 0 1 → h2 k < 2) → h2 (ar 0 1 - 1) = 1 → ar1 = cmt ar true 0 sd h2 sc 1 → ∃ G : Nat → Prop, gC (ar1 7) (ar1 8) (ar1 9) (ar1 10) (ar1 21) (ar1 22) (ar1 13) (ar1 20) (ar1 0 1) G ∧ G (ar1 0 1 - 1)) : Met l y_M_prove (Cond.code y_M_prove c_M_prove 4 (some .int) :: zT) ({ frames := 7, cells := 0, slots := 0, locals := 280 }) (va_Pc [.ref (am 0), .int (nI sd)] (mw D ca am ar)) (va_Qi (fun r ar2 => (ar 0 1 = 0 ∧ r = -2 ∧ ar2 = ar) ∨ (0 < ar 0 1 ∧ ∃ h : Nat → Nat, kOK ar h (ar 0 1) ∧ (∀ k, k < ar 0 1 → h k < 2) ∧ ((¬ h (ar 0 1 - 1) = 1 ∧ r = -3 ∧ ar2 = va_up ar 27 h) ∨ (h (ar 0 1 - 1) = 1 ∧ ∃ (h2 : Nat → Nat) (sc ar1 sc2 : Nat → Nat → Nat), kOK ar h2 (ar 0 1) ∧ (∀ k, k < ar 0 1 → h2 k < 2) ∧ ar1 = cmt ar true 0 sd h2 sc 1 ∧ r = nI (hsv ar1) ∧ ar2 = mix (rq false (ar1 7) (ar1 8) (ar1 9) (ar1 10) (ar1 21) (ar1 22) (ar1 0 1 - 1) (hsv ar1) ar1) sc2)))) (mw D ca am) (mA am)) 0 0 (mA am) := by
  refine Met.ofW (cc := c_M_prove) (maxL := 4) (ret := (some .int)) (by decide) rfl ?_
  intro p e s m args below meth c s₁ B hml hv
  obtain ⟨rfl, hK, hP⟩ := hv
  have hx := B.exec
  have hb := B.bytes
  have hr := B.returns
  have hts0 := atoms_spec (ws := Cond.code y_M_prove c_M_prove 4 (some .int) :: zT) B.pre
  have hts := fun w h => hts0 w (List.mem_cons_of_mem _ h)
  have hown : s.vm.findClass R_M = some m.cls := findClass_of_methodNamed B.named
  have hlocks := B.notSynchronized
  have hD := mI_D hI
  have hS : va_S (mA am) s.heap s.heap [] := va_S.rf
  have hAA : ∀ q, mA am q → mA am q := fun _ h => h
  have hl := lv_entry ([.ref (am 0), .int (nI sd)]) (n := 4) (Nat.le_of_ble_eq_true rfl)
  rw [lg_entry_eq]
  generalize (lg_sl ([.ref (am 0), .int (nI sd)]) ++ List.replicate (4 - (lg_sl ([.ref (am 0), .int (nI sd)])).length) Slot.unset).toArray = ls at hl ⊢
  have hl : lv_has ls 4 [(0, .ref (am 0)), (1, .int (nI sd))] := hl
  skip
  refine lv_aload_n hx hb d_M_prove_0 rfl (lv_at hl 0 rfl) ?_
  refine lv_iload_n hx hb d_M_prove_1 rfl (lv_at hl 1 rfl) ?_
  refine mm_ci (index := 182) (n := 1) (As := [.int (nI sd)]) (rest := []) ⟨hx, hb, hml, hown, hts⟩ (k_commitM l D ca am (ar) hI sd lo hT hw hI2 hbs his) mk_M_182 mo_M_commit me_M_M_commit_M mi_M mc_M_commit (by decide +kernel) ⟨rfl, rfl⟩ ⟨by decide, by decide⟩ hK hP hS hAA rfl hl.1 rfl (Nat.le_of_ble_eq_true rfl) d_M_prove_2 ⟨Nat.zero_le _, Nat.zero_le _⟩ (fun r ar1 H locs hpost hP hS => ?_)
  rcases hpost with ⟨z, rfl, e1⟩ | ⟨z, h, hk, hh, ⟨y, rfl, rfl⟩ | ⟨y, rfl, h2, sc, hk2, hh2, hA⟩⟩
  · skip
    rw [e1] at hP
    refine lv_istore_n (lv' := [(2, .int ((-2))), (0, .ref (am 0)), (1, .int (nI sd))]) hx hb d_M_prove_5 rfl hl (by decide) rfl (fun ls hl => ?_)
    refine lv_iload_n hx hb d_M_prove_6 rfl (lv_at hl 0 rfl) ?_
    refine lv_if_ge (tgt := 12) hx hb d_M_prove_7 rfl (fun h7 => absurd h7 (by decide)) (fun h7 => ?_)
    refine lv_iload_n hx hb d_M_prove_10 rfl (lv_at hl 0 rfl) ?_
    exact W.iret hx hb hr (fun t ht hW => ⟨⟨_, ar, rfl, Or.inl ⟨z, rfl, rfl⟩, va_K.moved hW.alike hK, by rw [ht]; exact hP⟩, hS.F ht⟩) hS.2.2 d_M_prove_11
  · skip
    refine lv_istore_n (lv' := [(2, .int ((-3))), (0, .ref (am 0)), (1, .int (nI sd))]) hx hb d_M_prove_5 rfl hl (by decide) rfl (fun ls hl => ?_)
    refine lv_iload_n hx hb d_M_prove_6 rfl (lv_at hl 0 rfl) ?_
    refine lv_if_ge (tgt := 12) hx hb d_M_prove_7 rfl (fun h7 => absurd h7 (by decide)) (fun h7 => ?_)
    refine lv_iload_n hx hb d_M_prove_10 rfl (lv_at hl 0 rfl) ?_
    exact W.iret hx hb hr (fun t ht hW => ⟨⟨_, va_up ar 27 h, rfl, Or.inr ⟨z, h, hk, hh, Or.inl ⟨y, rfl, rfl⟩⟩, va_K.moved hW.alike hK, by rw [ht]; exact hP⟩, hS.F ht⟩) hS.2.2 d_M_prove_11
  · skip
    have a7 : ar1 7 = ar 7 := by rw [hA]; exact cmt_row (by unfold cRow; decide) (by decide)
    have a8 : ar1 8 = ar 8 := by rw [hA]; exact cmt_row (by unfold cRow; decide) (by decide)
    have a9 : ar1 9 = ar 9 := by rw [hA]; exact cmt_row (by unfold cRow; decide) (by decide)
    have a10 : ar1 10 = ar 10 := by rw [hA]; exact cmt_row (by unfold cRow; decide) (by decide)
    have a11 : ar1 11 = ar 11 := by rw [hA]; exact cmt_row (by unfold cRow; decide) (by decide)
    have a12 : ar1 12 = ar 12 := by rw [hA]; exact cmt_row (by unfold cRow; decide) (by decide)
    have a13 : ar1 13 = ar 13 := by rw [hA]; exact cmt_row (by unfold cRow; decide) (by decide)
    have b1 : ar1 0 1 = ar 0 1 := by rw [hA]; exact cmt_0 (by decide)
    have b2 : ar1 0 2 = ar 0 2 := by rw [hA]; exact cmt_0 (by decide)
    have hT1 : tT ar1 := tT_of hT b1 b2 a7 a8 a9 a10
    obtain ⟨G, hG, hGr⟩ := hGp h2 sc ar1 hk2 hh2 (by rw [kOK_uniq hT hk hk2 _ (by omega)]; exact y) hA
    refine lv_istore_n (lv' := [(2, .int 0), (0, .ref (am 0)), (1, .int (nI sd))]) hx hb d_M_prove_5 rfl hl (by decide) rfl (fun ls hl => ?_)
    refine lv_iload_n hx hb d_M_prove_6 rfl (lv_at hl 0 rfl) ?_
    refine lv_if_ge (tgt := 12) hx hb d_M_prove_7 rfl (fun h7 => ?_) (fun h7 => absurd (by decide) h7)
    refine lv_aload_n hx hb d_M_prove_12 rfl (lv_at hl 1 rfl) ?_
    refine zz_cV (index := 186) (n := 0) (As := []) (rest := []) ⟨hx, hb, hml, hown, hts⟩ (k_hashedM l D ca am (ar1) hI hT1.2.1 (by rw [a11]; exact hbs)) mk_M_186 mo_M_hashed me_M_M_hashed_M mi_M mc_M_hashed (by decide +kernel) ⟨rfl, rfl⟩ ⟨by decide, by decide⟩ (mm_pre hK hP) rfl hl.1 rfl (Nat.le_of_ble_eq_true rfl) d_M_prove_13 ⟨Nat.zero_le _, Nat.zero_le _⟩ ?_
    refine lv_istore_n (lv' := [(3, .int (nI (hsv ar1))), (2, .int 0), (0, .ref (am 0)), (1, .int (nI sd))]) hx hb d_M_prove_16 rfl hl (by decide) rfl (fun ls hl => ?_)
    refine lv_aload_n hx hb d_M_prove_17 rfl (lv_at hl 2 rfl) ?_
    refine lv_iload_n hx hb d_M_prove_18 rfl (lv_at hl 0 rfl) ?_
    refine mm_cv (index := 177) (n := 1) (As := [.int (nI (hsv ar1))]) (rest := []) ⟨hx, hb, hml, hown, hts⟩ (k_respondTreeM l D ca am (ar1) hI (hsv ar1) lo hT1 (by rw [b1]; exact z) (by rw [a7, a8, a9, b1]; exact hI2) (Nat.mod_lt _ (by decide)) G hG hGr) mk_M_177 mo_M_respondTree me_M_M_respondTree_M mi_M mc_M_respondTree (by decide +kernel) ⟨rfl, rfl⟩ ⟨by decide, by decide⟩ hK hP hS hAA rfl hl.1 rfl (Nat.le_of_ble_eq_true rfl) d_M_prove_19 ⟨Nat.zero_le _, Nat.zero_le _⟩ (fun ar1 H locs hpost hP hS => ?_)
    obtain ⟨sc2, rfl⟩ := hpost
    refine lv_iload_n hx hb d_M_prove_22 rfl (lv_at hl 0 rfl) ?_
    exact W.iret hx hb hr (fun t ht hW => ⟨⟨_, mix (rq false (ar1 7) (ar1 8) (ar1 9) (ar1 10) (ar1 21) (ar1 22) (ar1 0 1 - 1) (hsv ar1) ar1) sc2, rfl, Or.inr ⟨z, h, hk, hh, Or.inr ⟨y, h2, sc, ar1, sc2, hk2, hh2, hA, rfl, rfl⟩⟩, va_K.moved hW.alike hK, by rw [ht]; exact hP⟩, hS.F ht⟩) hS.2.2 d_M_prove_23

theorem d_M_join_0 : decode c_M_join 0 = .ok (.aload_n 0, 1) := by decide +kernel
theorem d_M_join_1 : decode c_M_join 1 = .ok (.getfield 112, 3) := by decide +kernel
theorem d_M_join_4 : decode c_M_join 4 = .ok (.iconst 2, 1) := by decide +kernel
theorem d_M_join_5 : decode c_M_join 5 = .ok (.if_icmp .ge 5, 3) := by decide +kernel
theorem d_M_join_8 : decode c_M_join 8 = .ok (.iconst 0, 1) := by decide +kernel
theorem d_M_join_9 : decode c_M_join 9 = .ok (.ireturn, 1) := by decide +kernel
theorem d_M_join_10 : decode c_M_join 10 = .ok (.iconst 0, 1) := by decide +kernel
theorem d_M_join_11 : decode c_M_join 11 = .ok (.istore_n 2, 1) := by decide +kernel
theorem d_M_join_12 : decode c_M_join 12 = .ok (.aload_n 0, 1) := by decide +kernel
theorem d_M_join_13 : decode c_M_join 13 = .ok (.getfield 25, 3) := by decide +kernel
theorem d_M_join_16 : decode c_M_join 16 = .ok (.aload_n 0, 1) := by decide +kernel
theorem d_M_join_17 : decode c_M_join 17 = .ok (.getfield 112, 3) := by decide +kernel
theorem d_M_join_20 : decode c_M_join 20 = .ok (.iconst 2, 1) := by decide +kernel
theorem d_M_join_21 : decode c_M_join 21 = .ok (.isub, 1) := by decide +kernel
theorem d_M_join_22 : decode c_M_join 22 = .ok (.iaload, 1) := by decide +kernel
theorem d_M_join_23 : decode c_M_join 23 = .ok (.istore_n 3, 1) := by decide +kernel
theorem d_M_join_24 : decode c_M_join 24 = .ok (.iload_n 3, 1) := by decide +kernel
theorem d_M_join_25 : decode c_M_join 25 = .ok (.aload_n 0, 1) := by decide +kernel
theorem d_M_join_26 : decode c_M_join 26 = .ok (.getfield 25, 3) := by decide +kernel
theorem d_M_join_29 : decode c_M_join 29 = .ok (.aload_n 0, 1) := by decide +kernel
theorem d_M_join_30 : decode c_M_join 30 = .ok (.getfield 112, 3) := by decide +kernel
theorem d_M_join_33 : decode c_M_join 33 = .ok (.iaload, 1) := by decide +kernel
theorem d_M_join_34 : decode c_M_join 34 = .ok (.if_icmp .ge 26, 3) := by decide +kernel
theorem d_M_join_37 : decode c_M_join 37 = .ok (.iload_n 2, 1) := by decide +kernel
theorem d_M_join_38 : decode c_M_join 38 = .ok (.aload_n 0, 1) := by decide +kernel
theorem d_M_join_39 : decode c_M_join 39 = .ok (.getfield 7, 3) := by decide +kernel
theorem d_M_join_42 : decode c_M_join 42 = .ok (.iload_n 3, 1) := by decide +kernel
theorem d_M_join_43 : decode c_M_join 43 = .ok (.iaload, 1) := by decide +kernel
theorem d_M_join_44 : decode c_M_join 44 = .ok (.ifCond .ne 7, 3) := by decide +kernel
theorem d_M_join_47 : decode c_M_join 47 = .ok (.iconst 1, 1) := by decide +kernel
theorem d_M_join_48 : decode c_M_join 48 = .ok (.goto 4, 3) := by decide +kernel
theorem d_M_join_51 : decode c_M_join 51 = .ok (.iconst 0, 1) := by decide +kernel
theorem d_M_join_52 : decode c_M_join 52 = .ok (.iadd, 1) := by decide +kernel
theorem d_M_join_53 : decode c_M_join 53 = .ok (.istore_n 2, 1) := by decide +kernel
theorem d_M_join_54 : decode c_M_join 54 = .ok (.iinc 3 1, 3) := by decide +kernel
theorem d_M_join_57 : decode c_M_join 57 = .ok (.goto (-33), 3) := by decide +kernel
theorem d_M_join_60 : decode c_M_join 60 = .ok (.iload_n 2, 1) := by decide +kernel
theorem d_M_join_61 : decode c_M_join 61 = .ok (.bipush 8, 2) := by decide +kernel
theorem d_M_join_63 : decode c_M_join 63 = .ok (.if_icmp .le 5, 3) := by decide +kernel
theorem d_M_join_66 : decode c_M_join 66 = .ok (.iconst 0, 1) := by decide +kernel
theorem d_M_join_67 : decode c_M_join 67 = .ok (.ireturn, 1) := by decide +kernel
theorem d_M_join_68 : decode c_M_join 68 = .ok (.aload_n 0, 1) := by decide +kernel
theorem d_M_join_69 : decode c_M_join 69 = .ok (.getfield 25, 3) := by decide +kernel
theorem d_M_join_72 : decode c_M_join 72 = .ok (.aload_n 0, 1) := by decide +kernel
theorem d_M_join_73 : decode c_M_join 73 = .ok (.getfield 112, 3) := by decide +kernel
theorem d_M_join_76 : decode c_M_join 76 = .ok (.iaload, 1) := by decide +kernel
theorem d_M_join_77 : decode c_M_join 77 = .ok (.istore_n 3, 1) := by decide +kernel
theorem d_M_join_78 : decode c_M_join 78 = .ok (.aload_n 0, 1) := by decide +kernel
theorem d_M_join_79 : decode c_M_join 79 = .ok (.getfield 7, 3) := by decide +kernel
theorem d_M_join_82 : decode c_M_join 82 = .ok (.iload_n 3, 1) := by decide +kernel
theorem d_M_join_83 : decode c_M_join 83 = .ok (.iload_n 1, 1) := by decide +kernel
theorem d_M_join_84 : decode c_M_join 84 = .ok (.ifCond .eq 7, 3) := by decide +kernel
theorem d_M_join_87 : decode c_M_join 87 = .ok (.iconst 1, 1) := by decide +kernel
theorem d_M_join_88 : decode c_M_join 88 = .ok (.goto 4, 3) := by decide +kernel
theorem d_M_join_91 : decode c_M_join 91 = .ok (.iconst 2, 1) := by decide +kernel
theorem d_M_join_92 : decode c_M_join 92 = .ok (.iastore, 1) := by decide +kernel
theorem d_M_join_93 : decode c_M_join 93 = .ok (.aload_n 0, 1) := by decide +kernel
theorem d_M_join_94 : decode c_M_join 94 = .ok (.dup, 1) := by decide +kernel
theorem d_M_join_95 : decode c_M_join 95 = .ok (.getfield 112, 3) := by decide +kernel
theorem d_M_join_98 : decode c_M_join 98 = .ok (.iconst 1, 1) := by decide +kernel
theorem d_M_join_99 : decode c_M_join 99 = .ok (.isub, 1) := by decide +kernel
theorem d_M_join_100 : decode c_M_join 100 = .ok (.putfield 112, 3) := by decide +kernel
theorem d_M_join_103 : decode c_M_join 103 = .ok (.aload_n 0, 1) := by decide +kernel
theorem d_M_join_104 : decode c_M_join 104 = .ok (.getfield 25, 3) := by decide +kernel
theorem d_M_join_107 : decode c_M_join 107 = .ok (.aload_n 0, 1) := by decide +kernel
theorem d_M_join_108 : decode c_M_join 108 = .ok (.getfield 112, 3) := by decide +kernel
theorem d_M_join_111 : decode c_M_join 111 = .ok (.iload_n 3, 1) := by decide +kernel
theorem d_M_join_112 : decode c_M_join 112 = .ok (.iconst 1, 1) := by decide +kernel
theorem d_M_join_113 : decode c_M_join 113 = .ok (.iadd, 1) := by decide +kernel
theorem d_M_join_114 : decode c_M_join 114 = .ok (.iastore, 1) := by decide +kernel
theorem d_M_join_115 : decode c_M_join 115 = .ok (.iconst 1, 1) := by decide +kernel
theorem d_M_join_116 : decode c_M_join 116 = .ok (.ireturn, 1) := by decide +kernel

section MN
variable {p : Program} {l : Launch} {e : Env} {R : Room} {s : State} {m : MethodId} {args : Array Value} {below : List Frame} {meth : Method} {c : Code} {H0 : Heap} {cells slots : Nat} {Q : State → Prop} {A : Nat → Prop} {D : va_G} {ca : Nat → ClassId} {am : Nat → Nat} {ar : Nat → Nat → Nat}
set_option maxHeartbeats 4000000 in
set_option maxRecDepth 100000 in
theorem join_loop (hx : p.tables.exec = Jvm.exec) (hb : c.code = c_M_join) (hml : c.maxLocals = 4) (hown : s.vm.findClass R_M = some m.cls) (hts : ∀ w ∈ zT, w.before args s = true) (hK : va_K D zC (zty ca) s) (hD : zD A 28 am) (all : Bool) {b0 : Nat} (ht : ar 0 0 ≤ 6) (he : ar 6 (ar 0 0) ≤ 90) (hkd : ∀ i, i < 90 → ar 1 i < 3) {H : Heap} {locs : List Loc} (hP : va_P D zC (zl 28 am (mct ca am (ar))) H) (kk : ∀ (ls : Array Slot), lv_has ls 4 [(2, .int (nI (cl (ar 1) (ar 6 (ar 0 0)) - cl (ar 1) b0))), (1, .int (zb all)), (0, .ref (am 0))] → W p l e R s m args below meth c H locs cells slots Q (F0 m 60 ls [])) : ∀ (j k : Nat), b0 ≤ k → k + j = ar 6 (ar 0 0) → ∀ (ls : Array Slot), lv_has ls 4 [(3, .int (nI k)), (2, .int (nI (cl (ar 1) k - cl (ar 1) b0))), (1, .int (zb all)), (0, .ref (am 0))] → W p l e R s m args below meth c H locs cells slots Q (F0 m 24 ls []) := by
  intro j
  induction j with
  | zero =>
    intro k hbk hk ls hl
    obtain rfl : k = ar 6 (ar 0 0) := by omega
    refine lv_iload_n hx hb d_M_join_24 rfl (lv_at hl 0 rfl) ?_
    refine lv_aload_n hx hb d_M_join_25 rfl (lv_at hl 3 rfl) ?_
    refine mm_get hx hb hts hown hK hP (index := 25) 5 (by decide) mf_M_25 (v := .ref (am 6)) rfl d_M_join_26 ?_
    refine lv_aload_n hx hb d_M_join_29 rfl (lv_at hl 3 rfl) ?_
    refine mm_get hx hb hts hown hK hP (index := 112) 27 (by decide) mf_M_112 (v := .int (nI (ar 0 0))) rfl d_M_join_30 ?_
    refine mm_ald hx hb hK hP 5 (by decide) rfl (ar 0 0) rfl (show ar 0 0 < 7 from by omega) (ar 6 (ar 0 0)) (rfl) d_M_join_33 ?_
    refine lv_icmp_ge (tgt := 60) hx hb d_M_join_34 rfl (fun h34 => ?_) (fun h34 => absurd (Int32.le_refl _) h34)
    have hl := lv_sub (l' := [(2, .int (nI (cl (ar 1) (ar 6 (ar 0 0)) - cl (ar 1) b0))), (1, .int (zb all)), (0, .ref (am 0))]) hl [1, 2, 3] rfl
    exact kk ls hl
  | succ j ih =>
    intro k hbk hk ls hl
    have hm := cl_mono (kd := ar 1) hbk
    have hk3 := hkd k (by omega)
    refine lv_iload_n hx hb d_M_join_24 rfl (lv_at hl 0 rfl) ?_
    refine lv_aload_n hx hb d_M_join_25 rfl (lv_at hl 3 rfl) ?_
    refine mm_get hx hb hts hown hK hP (index := 25) 5 (by decide) mf_M_25 (v := .ref (am 6)) rfl d_M_join_26 ?_
    refine lv_aload_n hx hb d_M_join_29 rfl (lv_at hl 3 rfl) ?_
    refine mm_get hx hb hts hown hK hP (index := 112) 27 (by decide) mf_M_112 (v := .int (nI (ar 0 0))) rfl d_M_join_30 ?_
    refine mm_ald hx hb hK hP 5 (by decide) rfl (ar 0 0) rfl (show ar 0 0 < 7 from by omega) (ar 6 (ar 0 0)) (rfl) d_M_join_33 ?_
    refine lv_icmp_ge (tgt := 60) hx hb d_M_join_34 rfl (fun h34 => absurd h34 (nI_ge (by omega) (by omega))) (fun h34 => ?_)
    refine lv_iload_n hx hb d_M_join_37 rfl (lv_at hl 1 rfl) ?_
    refine lv_aload_n hx hb d_M_join_38 rfl (lv_at hl 3 rfl) ?_
    refine mm_get hx hb hts hown hK hP (index := 7) 0 (by decide) mf_M_7 (v := .ref (am 1)) rfl d_M_join_39 ?_
    refine lv_iload_n hx hb d_M_join_42 rfl (lv_at hl 0 rfl) ?_
    refine mm_ald hx hb hK hP 0 (by decide) rfl (k) rfl (show k < 90 from by omega) (ar 1 k) (rfl) d_M_join_43 ?_
    refine lv_if_ne (tgt := 51) hx hb d_M_join_44 rfl (fun h44 => ?_) (fun h44 => ?_)
    · skip
      have e0 : ¬ ar 1 k = 0 := fun q => h44 (by rw [q]; rfl)
      have hq : cl (ar 1) (k + 1) - cl (ar 1) b0 = cl (ar 1) k - cl (ar 1) b0 + 0 := by rw [cl_join e0]; rfl
      refine lv_iconst (v := 0) hx hb d_M_join_51 rfl ?_
      refine lv_iadd hx hb d_M_join_52 ?_
      refine zz_as (y := nI ((cl (ar 1) k - cl (ar 1) b0) + 0)) (nI_add (cl (ar 1) k - cl (ar 1) b0) 0) ?_
      refine lv_istore_n (lv' := [(2, .int (nI ((cl (ar 1) k - cl (ar 1) b0) + 0))), (3, .int (nI k)), (1, .int (zb all)), (0, .ref (am 0))]) hx hb d_M_join_53 rfl hl (by decide) rfl (fun ls hl => ?_)
      refine lv_iinc (k := 1) (v := nI (k + 1)) (lv' := [(3, .int (nI (k + 1))), (2, .int (nI ((cl (ar 1) k - cl (ar 1) b0) + 0))), (1, .int (zb all)), (0, .ref (am 0))]) hx hb d_M_join_54 hl rfl (nI_1 _) (by decide) rfl (fun ls hl => ?_)
      refine lv_goto (tgt := 24) hx hb d_M_join_57 rfl ?_
      have hl : lv_has ls 4 [(3, .int (nI (k + 1))), (2, .int (nI (cl (ar 1) (k + 1) - cl (ar 1) b0))), (1, .int (zb all)), (0, .ref (am 0))] := by rw [hq]; exact hl
      have hl := lv_sub (l' := [(3, .int (nI (k + 1))), (2, .int (nI (cl (ar 1) (k + 1) - cl (ar 1) b0))), (1, .int (zb all)), (0, .ref (am 0))]) hl [0, 1, 2, 3] rfl
      exact ih (k + 1) (by omega) (by omega) ls hl
    · skip
      have e0 : ar 1 k = 0 := (zn_inj (by omega) (by decide)).mp h44
      have hq : cl (ar 1) (k + 1) - cl (ar 1) b0 = cl (ar 1) k - cl (ar 1) b0 + 1 := by rw [cl_leaf e0]; omega
      refine lv_iconst (v := 1) hx hb d_M_join_47 rfl ?_
      refine lv_goto (tgt := 52) hx hb d_M_join_48 rfl ?_
      refine lv_iadd hx hb d_M_join_52 ?_
      refine zz_as (y := nI ((cl (ar 1) k - cl (ar 1) b0) + 1)) (nI_add (cl (ar 1) k - cl (ar 1) b0) 1) ?_
      refine lv_istore_n (lv' := [(2, .int (nI ((cl (ar 1) k - cl (ar 1) b0) + 1))), (3, .int (nI k)), (1, .int (zb all)), (0, .ref (am 0))]) hx hb d_M_join_53 rfl hl (by decide) rfl (fun ls hl => ?_)
      refine lv_iinc (k := 1) (v := nI (k + 1)) (lv' := [(3, .int (nI (k + 1))), (2, .int (nI ((cl (ar 1) k - cl (ar 1) b0) + 1))), (1, .int (zb all)), (0, .ref (am 0))]) hx hb d_M_join_54 hl rfl (nI_1 _) (by decide) rfl (fun ls hl => ?_)
      refine lv_goto (tgt := 24) hx hb d_M_join_57 rfl ?_
      have hl : lv_has ls 4 [(3, .int (nI (k + 1))), (2, .int (nI (cl (ar 1) (k + 1) - cl (ar 1) b0))), (1, .int (zb all)), (0, .ref (am 0))] := by rw [hq]; exact hl
      have hl := lv_sub (l' := [(3, .int (nI (k + 1))), (2, .int (nI (cl (ar 1) (k + 1) - cl (ar 1) b0))), (1, .int (zb all)), (0, .ref (am 0))]) hl [0, 1, 2, 3] rfl
      exact ih (k + 1) (by omega) (by omega) ls hl
end MN

def jnB (ar : Nat → Nat → Nat) : Bool := decide (2 ≤ ar 0 0) && decide (cl (ar 1) (ar 6 (ar 0 0)) - cl (ar 1) (ar 6 (ar 0 0 - 2)) ≤ 8)
def jn (ar : Nat → Nat → Nat) (all : Bool) : Nat → Nat → Nat := zs (zs (zs ar 1 (ar 6 (ar 0 0)) (if all then 1 else 2)) 0 0 (ar 0 0 - 1)) 6 (ar 0 0 - 1) (ar 6 (ar 0 0) + 1)

theorem cl_le (kd : Nat → Nat) (n : Nat) : cl kd n ≤ n := by
  induction n with
  | zero => exact Nat.le_refl _
  | succ n ih => unfold cl; split <;> omega

set_option maxHeartbeats 4000000 in
set_option maxRecDepth 100000 in
/-- join(all) -/
theorem k_joinM (l : Launch) (D : va_G) (ca : Nat → ClassId) (am : Nat → Nat) (ar : Nat → Nat → Nat) (hI : mI am) (all : Bool) (ht : ar 0 0 ≤ 6) (hst : 2 ≤ ar 0 0 → ar 6 (ar 0 0 - 2) ≤ ar 6 (ar 0 0) ∧ ar 6 (ar 0 0) ≤ 90 ∧ (cl (ar 1) (ar 6 (ar 0 0)) - cl (ar 1) (ar 6 (ar 0 0 - 2)) ≤ 8 → ar 6 (ar 0 0) < 90)) (hkd : ∀ i, i < 90 → ar 1 i < 3) : Met l y_M_join (Cond.code y_M_join c_M_join 4 (some .boolean) :: zT) ({ frames := 1, cells := 0, slots := 0, locals := 40 }) (va_Pc [.ref (am 0), .int (zb all)] (mw D ca am ar)) (va_Qi (fun r ar1 => r = zb (jnB ar) ∧ ar1 = if jnB ar then jn ar all else ar) (mw D ca am) (mA am)) 0 0 (mA am) := by
  refine Met.ofW (cc := c_M_join) (maxL := 4) (ret := (some .boolean)) (by decide) rfl ?_
  intro p e s m args below meth c s₁ B hml hv
  obtain ⟨rfl, hK, hP⟩ := hv
  have hx := B.exec
  have hb := B.bytes
  have hr := B.returns
  have hts0 := atoms_spec (ws := Cond.code y_M_join c_M_join 4 (some .boolean) :: zT) B.pre
  have hts := fun w h => hts0 w (List.mem_cons_of_mem _ h)
  have hown : s.vm.findClass R_M = some m.cls := findClass_of_methodNamed B.named
  have hlocks := B.notSynchronized
  have hD := mI_D hI
  have hS : va_S (mA am) s.heap s.heap [] := va_S.rf
  have hAA : ∀ q, mA am q → mA am q := fun _ h => h
  have hl := lv_entry ([.ref (am 0), .int (zb all)]) (n := 4) (Nat.le_of_ble_eq_true rfl)
  rw [lg_entry_eq]
  generalize (lg_sl ([.ref (am 0), .int (zb all)]) ++ List.replicate (4 - (lg_sl ([.ref (am 0), .int (zb all)])).length) Slot.unset).toArray = ls at hl ⊢
  have hl : lv_has ls 4 [(0, .ref (am 0)), (1, .int (zb all))] := hl
  skip
  refine lv_aload_n hx hb d_M_join_0 rfl (lv_at hl 0 rfl) ?_
  refine mm_get hx hb hts hown hK hP (index := 112) 27 (by decide) mf_M_112 (v := .int (nI (ar 0 0))) rfl d_M_join_1 ?_
  refine lv_iconst (v := 2) hx hb d_M_join_4 rfl ?_
  refine lv_icmp_ge (tgt := 10) hx hb d_M_join_5 rfl (fun h5 => ?_) (fun h5 => ?_)
  · skip
    have z : 2 ≤ ar 0 0 := (nI_leI (a := 2) (by decide) (by omega)).mp h5
    obtain ⟨s1, s2, s3⟩ := hst z
    have hcl := cl_le (ar 1) (ar 6 (ar 0 0))
    refine lv_iconst (v := 0) hx hb d_M_join_10 rfl ?_
    refine lv_istore_n (lv' := [(2, .int 0), (0, .ref (am 0)), (1, .int (zb all))]) hx hb d_M_join_11 rfl hl (by decide) rfl (fun ls hl => ?_)
    refine lv_aload_n hx hb d_M_join_12 rfl (lv_at hl 1 rfl) ?_
    refine mm_get hx hb hts hown hK hP (index := 25) 5 (by decide) mf_M_25 (v := .ref (am 6)) rfl d_M_join_13 ?_
    refine lv_aload_n hx hb d_M_join_16 rfl (lv_at hl 1 rfl) ?_
    refine mm_get hx hb hts hown hK hP (index := 112) 27 (by decide) mf_M_112 (v := .int (nI (ar 0 0))) rfl d_M_join_17 ?_
    refine lv_iconst (v := 2) hx hb d_M_join_20 rfl ?_
    refine lv_isub hx hb d_M_join_21 ?_
    refine zz_as (y := nI ((ar 0 0) - 2)) (pk_sub (a := ar 0 0) (b := 2) (by omega)) ?_
    refine mm_ald hx hb hK hP 5 (by decide) rfl ((ar 0 0) - 2) rfl (show (ar 0 0) - 2 < 7 from by omega) (ar 6 ((ar 0 0) - 2)) (rfl) d_M_join_22 ?_
    refine lv_istore_n (lv' := [(3, .int (nI (ar 6 ((ar 0 0) - 2)))), (2, .int 0), (0, .ref (am 0)), (1, .int (zb all))]) hx hb d_M_join_23 rfl hl (by decide) rfl (fun ls hl => ?_)
    have hl : lv_has ls 4 [(3, .int (nI (ar 6 (ar 0 0 - 2)))), (2, .int (nI (cl (ar 1) (ar 6 (ar 0 0 - 2)) - cl (ar 1) (ar 6 (ar 0 0 - 2))))), (1, .int (zb all)), (0, .ref (am 0))] := by rw [Nat.sub_self]; exact lv_sub hl [0, 1, 3, 2] rfl
    refine join_loop hx hb hml hown hts hK hD all ht s2 hkd hP (fun ls hl => ?_) (ar 6 (ar 0 0) - ar 6 (ar 0 0 - 2)) _ (Nat.le_refl _) (by omega) ls hl
    refine lv_iload_n hx hb d_M_join_60 rfl (lv_at hl 0 rfl) ?_
    refine lv_bipush (v := 8) hx hb d_M_join_61 rfl ?_
    refine lv_icmp_le (tgt := 68) hx hb d_M_join_63 rfl (fun h63 => ?_) (fun h63 => ?_)
    · skip
      have y : cl (ar 1) (ar 6 (ar 0 0)) - cl (ar 1) (ar 6 (ar 0 0 - 2)) ≤ 8 := (nI_leI (b := 8) (by omega) (by decide)).mp h63
      have hq : jnB ar = true := by unfold jnB; rw [decide_eq_true z, decide_eq_true y]; rfl
      have s4 := s3 y
      refine lv_aload_n hx hb d_M_join_68 rfl (lv_at hl 2 rfl) ?_
      refine mm_get hx hb hts hown hK hP (index := 25) 5 (by decide) mf_M_25 (v := .ref (am 6)) rfl d_M_join_69 ?_
      refine lv_aload_n hx hb d_M_join_72 rfl (lv_at hl 2 rfl) ?_
      refine mm_get hx hb hts hown hK hP (index := 112) 27 (by decide) mf_M_112 (v := .int (nI (ar 0 0))) rfl d_M_join_73 ?_
      refine mm_ald hx hb hK hP 5 (by decide) rfl (ar 0 0) rfl (show ar 0 0 < 7 from by omega) (ar 6 (ar 0 0)) (rfl) d_M_join_76 ?_
      refine lv_istore_n (lv' := [(3, .int (nI (ar 6 (ar 0 0)))), (2, .int (nI (cl (ar 1) (ar 6 (ar 0 0)) - cl (ar 1) (ar 6 (ar 0 0 - 2))))), (1, .int (zb all)), (0, .ref (am 0))]) hx hb d_M_join_77 rfl hl (by decide) rfl (fun ls hl => ?_)
      refine lv_aload_n hx hb d_M_join_78 rfl (lv_at hl 3 rfl) ?_
      refine mm_get hx hb hts hown hK hP (index := 7) 0 (by decide) mf_M_7 (v := .ref (am 1)) rfl d_M_join_79 ?_
      refine lv_iload_n hx hb d_M_join_82 rfl (lv_at hl 0 rfl) ?_
      refine lv_iload_n hx hb d_M_join_83 rfl (lv_at hl 2 rfl) ?_
      refine lv_if_eq (tgt := 91) hx hb d_M_join_84 rfl (fun h84 => ?_) (fun h84 => ?_)
      · skip
        obtain rfl := zb_eq h84
        refine lv_iconst (v := 2) hx hb d_M_join_91 rfl ?_
        refine mm_ast hx hb hK hP hD hS 0 (by decide) rfl (ar 6 (ar 0 0)) rfl (show ar 6 (ar 0 0) < 90 from by omega) (2) (rfl) d_M_join_92 (fun H locs hP hS => ?_)
        refine lv_aload_n hx hb d_M_join_93 rfl (lv_at hl 3 rfl) ?_
        refine lv_dup hx hb d_M_join_94 rfl ?_
        refine mm_get hx hb hts hown hK hP (index := 112) 27 (by decide) mf_M_112 (v := .int (nI (ar 0 0))) rfl d_M_join_95 ?_
        refine lv_iconst (v := 1) hx hb d_M_join_98 rfl ?_
        refine lv_isub hx hb d_M_join_99 ?_
        refine zz_as (y := nI ((ar 0 0) - 1)) (pk_sub (a := ar 0 0) (b := 1) (by omega)) ?_
        refine mm_put hx hb hts hown hK hP hD hS (index := 112) 0 (by decide) mf_M_112 ((ar 0 0) - 1) (rfl) rfl rfl d_M_join_100 (fun H locs hP hS => ?_)
        refine lv_aload_n hx hb d_M_join_103 rfl (lv_at hl 3 rfl) ?_
        refine mm_get hx hb hts hown hK hP (index := 25) 5 (by decide) mf_M_25 (v := .ref (am 6)) rfl d_M_join_104 ?_
        refine lv_aload_n hx hb d_M_join_107 rfl (lv_at hl 3 rfl) ?_
        refine mm_get hx hb hts hown hK hP (index := 112) 27 (by decide) mf_M_112 (v := .int (nI ((ar 0 0) - 1))) rfl d_M_join_108 ?_
        refine lv_iload_n hx hb d_M_join_111 rfl (lv_at hl 0 rfl) ?_
        refine lv_iconst (v := 1) hx hb d_M_join_112 rfl ?_
        refine lv_iadd hx hb d_M_join_113 ?_
        refine zz_as (y := nI ((ar 6 (ar 0 0)) + 1)) (nI_add (ar 6 (ar 0 0)) 1) ?_
        refine mm_ast hx hb hK hP hD hS 5 (by decide) rfl ((ar 0 0) - 1) rfl (show (ar 0 0) - 1 < 7 from by omega) ((ar 6 (ar 0 0)) + 1) (rfl) d_M_join_114 (fun H locs hP hS => ?_)
        refine lv_iconst (v := 1) hx hb d_M_join_115 rfl ?_
        exact W.zret hx hb hr (rfl) (fun t ht hW => ⟨⟨_, zs (zs (zs ar 1 (ar 6 (ar 0 0)) 2) 0 0 ((ar 0 0) - 1)) 6 ((ar 0 0) - 1) ((ar 6 (ar 0 0)) + 1), rfl, ⟨by rw [hq]; rfl, by rw [hq]; rfl⟩, va_K.moved hW.alike hK, by rw [ht]; exact hP⟩, hS.F ht⟩) hS.2.2 d_M_join_116
      · skip
        obtain rfl := zb_ne h84
        refine lv_iconst (v := 1) hx hb d_M_join_87 rfl ?_
        refine lv_goto (tgt := 92) hx hb d_M_join_88 rfl ?_
        refine mm_ast hx hb hK hP hD hS 0 (by decide) rfl (ar 6 (ar 0 0)) rfl (show ar 6 (ar 0 0) < 90 from by omega) (1) (rfl) d_M_join_92 (fun H locs hP hS => ?_)
        refine lv_aload_n hx hb d_M_join_93 rfl (lv_at hl 3 rfl) ?_
        refine lv_dup hx hb d_M_join_94 rfl ?_
        refine mm_get hx hb hts hown hK hP (index := 112) 27 (by decide) mf_M_112 (v := .int (nI (ar 0 0))) rfl d_M_join_95 ?_
        refine lv_iconst (v := 1) hx hb d_M_join_98 rfl ?_
        refine lv_isub hx hb d_M_join_99 ?_
        refine zz_as (y := nI ((ar 0 0) - 1)) (pk_sub (a := ar 0 0) (b := 1) (by omega)) ?_
        refine mm_put hx hb hts hown hK hP hD hS (index := 112) 0 (by decide) mf_M_112 ((ar 0 0) - 1) (rfl) rfl rfl d_M_join_100 (fun H locs hP hS => ?_)
        refine lv_aload_n hx hb d_M_join_103 rfl (lv_at hl 3 rfl) ?_
        refine mm_get hx hb hts hown hK hP (index := 25) 5 (by decide) mf_M_25 (v := .ref (am 6)) rfl d_M_join_104 ?_
        refine lv_aload_n hx hb d_M_join_107 rfl (lv_at hl 3 rfl) ?_
        refine mm_get hx hb hts hown hK hP (index := 112) 27 (by decide) mf_M_112 (v := .int (nI ((ar 0 0) - 1))) rfl d_M_join_108 ?_
        refine lv_iload_n hx hb d_M_join_111 rfl (lv_at hl 0 rfl) ?_
        refine lv_iconst (v := 1) hx hb d_M_join_112 rfl ?_
        refine lv_iadd hx hb d_M_join_113 ?_
        refine zz_as (y := nI ((ar 6 (ar 0 0)) + 1)) (nI_add (ar 6 (ar 0 0)) 1) ?_
        refine mm_ast hx hb hK hP hD hS 5 (by decide) rfl ((ar 0 0) - 1) rfl (show (ar 0 0) - 1 < 7 from by omega) ((ar 6 (ar 0 0)) + 1) (rfl) d_M_join_114 (fun H locs hP hS => ?_)
        refine lv_iconst (v := 1) hx hb d_M_join_115 rfl ?_
        exact W.zret hx hb hr (rfl) (fun t ht hW => ⟨⟨_, zs (zs (zs ar 1 (ar 6 (ar 0 0)) 1) 0 0 ((ar 0 0) - 1)) 6 ((ar 0 0) - 1) ((ar 6 (ar 0 0)) + 1), rfl, ⟨by rw [hq]; rfl, by rw [hq]; rfl⟩, va_K.moved hW.alike hK, by rw [ht]; exact hP⟩, hS.F ht⟩) hS.2.2 d_M_join_116
    · skip
      have y : ¬ cl (ar 1) (ar 6 (ar 0 0)) - cl (ar 1) (ar 6 (ar 0 0 - 2)) ≤ 8 := fun q => h63 (nI_le q (by decide))
      have hq : jnB ar = false := by unfold jnB; rw [decide_eq_false y, Bool.and_false]
      refine lv_iconst (v := 0) hx hb d_M_join_66 rfl ?_
      exact W.zret hx hb hr (rfl) (fun t ht hW => ⟨⟨_, ar, rfl, ⟨by rw [hq]; rfl, by rw [hq]; rfl⟩, va_K.moved hW.alike hK, by rw [ht]; exact hP⟩, hS.F ht⟩) hS.2.2 d_M_join_67
  · skip
    have z : ¬ 2 ≤ ar 0 0 := fun q => h5 (nI_le q (by omega))
    have hq : jnB ar = false := by unfold jnB; rw [decide_eq_false z, Bool.false_and]
    refine lv_iconst (v := 0) hx hb d_M_join_8 rfl ?_
    exact W.zret hx hb hr (rfl) (fun t ht hW => ⟨⟨_, ar, rfl, ⟨by rw [hq]; rfl, by rw [hq]; rfl⟩, va_K.moved hW.alike hK, by rw [ht]; exact hP⟩, hS.F ht⟩) hS.2.2 d_M_join_9
end
section
/-! the model's accept -/
def accI (ar a : Nat → Nat → Nat) (lo : Nat → Nat) (N k n : Nat) : Prop :=
  (∀ j, j ≠ 0 → j ≠ 7 → j ≠ 8 → j ≠ 9 → j ≠ 10 → j ≠ 11 → j ≠ 12 → j ≠ 26 → a j = ar j) ∧ (∀ i, i ≠ 1 → i ≠ 2 → a 0 i = ar 0 i) ∧ a 0 1 = N ∧ a 0 2 = cl (ar 1) k ∧
  (∀ i, i < k → a 7 i = ar 1 i ∧ (ar 1 i = 0 → a 10 i = cl (ar 1) i ∧ a 11 (2 * cl (ar 1) i) = ar 2 i ∧ a 12 (2 * cl (ar 1) i) = ar 3 i ∧ a 11 (2 * cl (ar 1) i + 1) = ar 4 i ∧ a 12 (2 * cl (ar 1) i + 1) = ar 5 i) ∧ (ar 1 i ≠ 0 → a 8 i = lo (i - 1) - 1 ∧ a 9 i = i - 1)) ∧
  n ≤ k ∧ (0 < k → 0 < n ∧ a 26 (n - 1) = k - 1) ∧ (∀ j, 0 < j → j < n → 1 ≤ lo (a 26 j) ∧ a 26 (j - 1) = lo (a 26 j) - 1) ∧ (0 < n → lo (a 26 0) = 0) ∧ ∀ j, j < n → a 26 j < k
theorem cl_lt {kd : Nat → Nat} {i k : Nat} (h : i < k) (h0 : kd i = 0) : cl kd i < cl kd k := by
  have := cl_mono (kd := kd) (show i + 1 ≤ k by omega)
  rw [cl_leaf h0] at this
  omega
theorem accI_leaf {ar a : Nat → Nat → Nat} {lo : Nat → Nat} {N k n : Nat} (h : accI ar a lo N k n) (h0 : ar 1 k = 0) (hlo : lo k = k) : accI ar (zs (zs (zs (zs (zs (zs (zs (zs a 7 k (ar 1 k)) 10 k (a 0 2)) 11 (2 * a 0 2) (ar 2 k)) 12 (2 * a 0 2) (ar 3 k)) 11 (2 * a 0 2 + 1) (ar 4 k)) 12 (2 * a 0 2 + 1) (ar 5 k)) 0 2 (a 0 2 + 1)) 26 n k) lo N (k + 1) (n + 1) := by
  obtain ⟨h1, h2, h3, h4, h5, h6, h7, h8, h9, h10⟩ := h
  refine ⟨fun j j0 j7 j8 j9 j10 j11 j12 j26 => ?_, fun i i1 i2 => ?_, ?_, ?_, fun i hi => ?_, by omega, fun _ => ⟨by omega, ?_⟩, fun j j0 jn => ?_, fun _ => ?_, fun j jn => ?_⟩
  · rw [zs_row _ _ _ j26, zs_row _ _ _ j0, zs_row _ _ _ j12, zs_row _ _ _ j11, zs_row _ _ _ j12, zs_row _ _ _ j11, zs_row _ _ _ j10, zs_row _ _ _ j7]
    exact h1 j j0 j7 j8 j9 j10 j11 j12 j26
  · simp [zs_at, i2]; exact h2 i i1 i2
  · simp [zs_at]; exact h3
  · simp [zs_at]; rw [cl_leaf h0, h4]
  · by_cases e : i = k
    · subst e
      refine ⟨by simp [zs_at], fun _ => ⟨by simp [zs_at, h4], by simp [zs_at, h4], by simp [zs_at, h4], by simp [zs_at, h4], by simp [zs_at, h4]⟩, fun q => absurd h0 q⟩
    · obtain ⟨g1, g2, g3⟩ := h5 i (by omega)
      refine ⟨by simp [zs_at, e]; exact g1, fun q => ?_, fun q => ⟨by simp [zs_at]; exact (g3 q).1, by simp [zs_at]; exact (g3 q).2⟩⟩
      obtain ⟨p1, p2, p3, p4, p5⟩ := g2 q
      have hlt := cl_lt (kd := ar 1) (show i < k by omega) q
      have e1 : ¬ 2 * cl (ar 1) i = 2 * cl (ar 1) k := by omega
      have e2 : ¬ 2 * cl (ar 1) i = 2 * cl (ar 1) k + 1 := by omega
      have e3 : ¬ 2 * cl (ar 1) i + 1 = 2 * cl (ar 1) k := by omega
      have e4 : ¬ cl (ar 1) i = cl (ar 1) k := by omega
      refine ⟨by simp [zs_at, e]; exact p1, by simp [zs_at, h4, e1, e2, e4]; exact p2, by simp [zs_at, h4, e1, e2, e4]; exact p3, by simp [zs_at, h4, e1, e3, e4]; exact p4, by simp [zs_at, h4, e1, e3, e4]; exact p5⟩
  · simp [zs_at]
  · by_cases e : j = n
    · subst e
      have hk := h7 (by omega)
      have e1 : ¬ j - 1 = j := by omega
      simp only [zs_at]
      simp [e1, hlo]
      omega
    · have := h8 j j0 (by omega)
      have e1 : ¬ j - 1 = n := by omega
      simp [zs_at, e, e1]; exact this
  · by_cases e : n = 0
    · subst e
      have hk : k = 0 := by omega
      simp [zs_at]; omega
    · have e1 : ¬ 0 = n := by omega
      simp [zs_at, e1]; exact h9 (by omega)
  · by_cases e : j = n
    · subst e; simp [zs_at]
    · have := h10 j (by omega)
      simp [zs_at, e]; omega
theorem accI_join {ar a : Nat → Nat → Nat} {lo : Nat → Nat} {N k n : Nat} (h : accI ar a lo N k n) (h0 : ar 1 k ≠ 0) (hk1 : 1 ≤ k) (hl1 : 1 ≤ lo (k - 1)) (hlo : lo k = lo (lo (k - 1) - 1)) : 2 ≤ n ∧ a 26 (n - 2) = lo (k - 1) - 1 ∧ a 26 (n - 2 + 1) = k - 1 ∧ accI ar (zs (zs (zs (zs a 7 k (ar 1 k)) 8 k (a 26 (n - 2))) 9 k (a 26 (n - 2 + 1))) 26 (n - 2) k) lo N (k + 1) (n - 2 + 1) := by
  obtain ⟨h1, h2, h3, h4, h5, h6, h7, h8, h9, h10⟩ := h
  have hn := h7 (by omega)
  have n2 : 2 ≤ n := by
    rcases Nat.lt_or_ge n 2 with q | q
    · have e : n = 1 := by omega
      subst e
      have a1 := h9 (by omega)
      have a2 := hn.2
      simp at a2
      rw [a2] at a1
      omega
    · exact q
  have e1 : n - 2 + 1 = n - 1 := by omega
  have v1 : a 26 (n - 2 + 1) = k - 1 := by rw [e1]; exact hn.2
  have v0 : a 26 (n - 2) = lo (k - 1) - 1 := by
    have := (h8 (n - 1) (by omega) (by omega)).2
    rw [hn.2, show n - 1 - 1 = n - 2 by omega] at this
    exact this
  refine ⟨n2, v0, v1, fun j j0 j7 j8 j9 j10 j11 j12 j26 => ?_, fun i i1 i2 => ?_, ?_, ?_, fun i hi => ?_, by omega, fun _ => ⟨by omega, ?_⟩, fun j j0 jn => ?_, fun _ => ?_, fun j jn => ?_⟩
  · rw [zs_row _ _ _ j26, zs_row _ _ _ j9, zs_row _ _ _ j8, zs_row _ _ _ j7]
    exact h1 j j0 j7 j8 j9 j10 j11 j12 j26
  · simp [zs_at]; exact h2 i i1 i2
  · simp [zs_at]; exact h3
  · simp [zs_at]; rw [cl_join h0, h4]
  · by_cases e : i = k
    · subst e
      refine ⟨by simp [zs_at], fun q => absurd q h0, fun _ => ⟨by simp [zs_at, v0], by simp [zs_at, v1]⟩⟩
    · obtain ⟨g1, g2, g3⟩ := h5 i (by omega)
      refine ⟨by simp [zs_at, e]; exact g1, fun q => ?_, fun q => ⟨by simp [zs_at, e]; exact (g3 q).1, by simp [zs_at, e]; exact (g3 q).2⟩⟩
      obtain ⟨p1, p2, p3, p4, p5⟩ := g2 q
      refine ⟨by simp [zs_at]; exact p1, by simp [zs_at]; exact p2, by simp [zs_at]; exact p3, by simp [zs_at]; exact p4, by simp [zs_at]; exact p5⟩
  · simp [zs_at]
  · by_cases e : j = n - 2
    · subst e
      have b := h8 (n - 2) j0 (by omega)
      have e1 : ¬ n - 2 - 1 = n - 2 := by omega
      simp only [zs_at]
      simp [e1]
      rw [hlo, ← v0]
      exact b
    · have := h8 j j0 (by omega)
      have e1 : ¬ j - 1 = n - 2 := by omega
      simp [zs_at, e, e1]; exact this
  · by_cases e : n - 2 = 0
    · rw [e]
      simp [zs_at]
      rw [hlo, ← v0, e]
      exact h9 (by omega)
    · have e1 : ¬ 0 = n - 2 := by omega
      simp [zs_at, e1]; exact h9 (by omega)
  · by_cases e : j = n - 2
    · subst e; simp [zs_at]
    · have := h10 j (by omega)
      simp [zs_at, e]; omega
theorem zn_dec2 {n : Nat} (h : 2 ≤ n) : nI n + (-2) = nI (n - 2) := by
  rw [← pk_sub h, Int32.sub_eq_add_neg]; rfl
theorem up_c {h : Nat → Nat} {k v : Nat} (hh : ∀ i, i < k → h i = v) : ∀ i, i < k + 1 → va_up h k v i = v := by
  intro i hi
  by_cases e : i = k
  · subst e; rw [va_up_self]
  · rw [va_up_ne _ _ e]; exact hh i (by omega)

theorem d_M_accept_0 : decode c_M_accept 0 = .ok (.aload_n 0, 1) := by decide +kernel
theorem d_M_accept_1 : decode c_M_accept 1 = .ok (.getfield 112, 3) := by decide +kernel
theorem d_M_accept_4 : decode c_M_accept 4 = .ok (.iconst 1, 1) := by decide +kernel
theorem d_M_accept_5 : decode c_M_accept 5 = .ok (.if_icmp .eq 5, 3) := by decide +kernel
theorem d_M_accept_8 : decode c_M_accept 8 = .ok (.iconst (-1), 1) := by decide +kernel
theorem d_M_accept_9 : decode c_M_accept 9 = .ok (.ireturn, 1) := by decide +kernel
theorem d_M_accept_10 : decode c_M_accept 10 = .ok (.aload_n 0, 1) := by decide +kernel
theorem d_M_accept_11 : decode c_M_accept 11 = .ok (.aload_n 0, 1) := by decide +kernel
theorem d_M_accept_12 : decode c_M_accept 12 = .ok (.getfield 25, 3) := by decide +kernel
theorem d_M_accept_15 : decode c_M_accept 15 = .ok (.iconst 1, 1) := by decide +kernel
theorem d_M_accept_16 : decode c_M_accept 16 = .ok (.iaload, 1) := by decide +kernel
theorem d_M_accept_17 : decode c_M_accept 17 = .ok (.putfield 122, 3) := by decide +kernel
theorem d_M_accept_20 : decode c_M_accept 20 = .ok (.aload_n 0, 1) := by decide +kernel
theorem d_M_accept_21 : decode c_M_accept 21 = .ok (.iconst 0, 1) := by decide +kernel
theorem d_M_accept_22 : decode c_M_accept 22 = .ok (.putfield 125, 3) := by decide +kernel
theorem d_M_accept_25 : decode c_M_accept 25 = .ok (.iconst 0, 1) := by decide +kernel
theorem d_M_accept_26 : decode c_M_accept 26 = .ok (.istore_n 1, 1) := by decide +kernel
theorem d_M_accept_27 : decode c_M_accept 27 = .ok (.iconst 0, 1) := by decide +kernel
theorem d_M_accept_28 : decode c_M_accept 28 = .ok (.istore_n 2, 1) := by decide +kernel
theorem d_M_accept_29 : decode c_M_accept 29 = .ok (.iload_n 2, 1) := by decide +kernel
theorem d_M_accept_30 : decode c_M_accept 30 = .ok (.aload_n 0, 1) := by decide +kernel
theorem d_M_accept_31 : decode c_M_accept 31 = .ok (.getfield 122, 3) := by decide +kernel
theorem d_M_accept_34 : decode c_M_accept 34 = .ok (.if_icmp .ge 164, 3) := by decide +kernel
theorem d_M_accept_37 : decode c_M_accept 37 = .ok (.aload_n 0, 1) := by decide +kernel
theorem d_M_accept_38 : decode c_M_accept 38 = .ok (.getfield 28, 3) := by decide +kernel
theorem d_M_accept_41 : decode c_M_accept 41 = .ok (.iload_n 2, 1) := by decide +kernel
theorem d_M_accept_42 : decode c_M_accept 42 = .ok (.aload_n 0, 1) := by decide +kernel
theorem d_M_accept_43 : decode c_M_accept 43 = .ok (.getfield 7, 3) := by decide +kernel
theorem d_M_accept_46 : decode c_M_accept 46 = .ok (.iload_n 2, 1) := by decide +kernel
theorem d_M_accept_47 : decode c_M_accept 47 = .ok (.iaload, 1) := by decide +kernel
theorem d_M_accept_48 : decode c_M_accept 48 = .ok (.iastore, 1) := by decide +kernel
theorem d_M_accept_49 : decode c_M_accept 49 = .ok (.aload_n 0, 1) := by decide +kernel
theorem d_M_accept_50 : decode c_M_accept 50 = .ok (.getfield 7, 3) := by decide +kernel
theorem d_M_accept_53 : decode c_M_accept 53 = .ok (.iload_n 2, 1) := by decide +kernel
theorem d_M_accept_54 : decode c_M_accept 54 = .ok (.iaload, 1) := by decide +kernel
theorem d_M_accept_55 : decode c_M_accept 55 = .ok (.ifCond .ne 98, 3) := by decide +kernel
theorem d_M_accept_58 : decode c_M_accept 58 = .ok (.aload_n 0, 1) := by decide +kernel
theorem d_M_accept_59 : decode c_M_accept 59 = .ok (.getfield 37, 3) := by decide +kernel
theorem d_M_accept_62 : decode c_M_accept 62 = .ok (.iload_n 2, 1) := by decide +kernel
theorem d_M_accept_63 : decode c_M_accept 63 = .ok (.aload_n 0, 1) := by decide +kernel
theorem d_M_accept_64 : decode c_M_accept 64 = .ok (.getfield 125, 3) := by decide +kernel
theorem d_M_accept_67 : decode c_M_accept 67 = .ok (.iastore, 1) := by decide +kernel
theorem d_M_accept_68 : decode c_M_accept 68 = .ok (.aload_n 0, 1) := by decide +kernel
theorem d_M_accept_69 : decode c_M_accept 69 = .ok (.getfield 40, 3) := by decide +kernel
theorem d_M_accept_72 : decode c_M_accept 72 = .ok (.iconst 2, 1) := by decide +kernel
theorem d_M_accept_73 : decode c_M_accept 73 = .ok (.aload_n 0, 1) := by decide +kernel
theorem d_M_accept_74 : decode c_M_accept 74 = .ok (.getfield 125, 3) := by decide +kernel
theorem d_M_accept_77 : decode c_M_accept 77 = .ok (.imul, 1) := by decide +kernel
theorem d_M_accept_78 : decode c_M_accept 78 = .ok (.aload_n 0, 1) := by decide +kernel
theorem d_M_accept_79 : decode c_M_accept 79 = .ok (.getfield 13, 3) := by decide +kernel
theorem d_M_accept_82 : decode c_M_accept 82 = .ok (.iload_n 2, 1) := by decide +kernel
theorem d_M_accept_83 : decode c_M_accept 83 = .ok (.iaload, 1) := by decide +kernel
theorem d_M_accept_84 : decode c_M_accept 84 = .ok (.iastore, 1) := by decide +kernel
theorem d_M_accept_85 : decode c_M_accept 85 = .ok (.aload_n 0, 1) := by decide +kernel
theorem d_M_accept_86 : decode c_M_accept 86 = .ok (.getfield 43, 3) := by decide +kernel
theorem d_M_accept_89 : decode c_M_accept 89 = .ok (.iconst 2, 1) := by decide +kernel
theorem d_M_accept_90 : decode c_M_accept 90 = .ok (.aload_n 0, 1) := by decide +kernel
theorem d_M_accept_91 : decode c_M_accept 91 = .ok (.getfield 125, 3) := by decide +kernel
theorem d_M_accept_94 : decode c_M_accept 94 = .ok (.imul, 1) := by decide +kernel
theorem d_M_accept_95 : decode c_M_accept 95 = .ok (.aload_n 0, 1) := by decide +kernel
theorem d_M_accept_96 : decode c_M_accept 96 = .ok (.getfield 16, 3) := by decide +kernel
theorem d_M_accept_99 : decode c_M_accept 99 = .ok (.iload_n 2, 1) := by decide +kernel
theorem d_M_accept_100 : decode c_M_accept 100 = .ok (.iaload, 1) := by decide +kernel
theorem d_M_accept_101 : decode c_M_accept 101 = .ok (.iastore, 1) := by decide +kernel
theorem d_M_accept_102 : decode c_M_accept 102 = .ok (.aload_n 0, 1) := by decide +kernel
theorem d_M_accept_103 : decode c_M_accept 103 = .ok (.getfield 40, 3) := by decide +kernel
theorem d_M_accept_106 : decode c_M_accept 106 = .ok (.iconst 2, 1) := by decide +kernel
theorem d_M_accept_107 : decode c_M_accept 107 = .ok (.aload_n 0, 1) := by decide +kernel
theorem d_M_accept_108 : decode c_M_accept 108 = .ok (.getfield 125, 3) := by decide +kernel
theorem d_M_accept_111 : decode c_M_accept 111 = .ok (.imul, 1) := by decide +kernel
theorem d_M_accept_112 : decode c_M_accept 112 = .ok (.iconst 1, 1) := by decide +kernel
theorem d_M_accept_113 : decode c_M_accept 113 = .ok (.iadd, 1) := by decide +kernel
theorem d_M_accept_114 : decode c_M_accept 114 = .ok (.aload_n 0, 1) := by decide +kernel
theorem d_M_accept_115 : decode c_M_accept 115 = .ok (.getfield 19, 3) := by decide +kernel
theorem d_M_accept_118 : decode c_M_accept 118 = .ok (.iload_n 2, 1) := by decide +kernel
theorem d_M_accept_119 : decode c_M_accept 119 = .ok (.iaload, 1) := by decide +kernel
theorem d_M_accept_120 : decode c_M_accept 120 = .ok (.iastore, 1) := by decide +kernel
theorem d_M_accept_121 : decode c_M_accept 121 = .ok (.aload_n 0, 1) := by decide +kernel
theorem d_M_accept_122 : decode c_M_accept 122 = .ok (.getfield 43, 3) := by decide +kernel
theorem d_M_accept_125 : decode c_M_accept 125 = .ok (.iconst 2, 1) := by decide +kernel
theorem d_M_accept_126 : decode c_M_accept 126 = .ok (.aload_n 0, 1) := by decide +kernel
theorem d_M_accept_127 : decode c_M_accept 127 = .ok (.getfield 125, 3) := by decide +kernel
theorem d_M_accept_130 : decode c_M_accept 130 = .ok (.imul, 1) := by decide +kernel
theorem d_M_accept_131 : decode c_M_accept 131 = .ok (.iconst 1, 1) := by decide +kernel
theorem d_M_accept_132 : decode c_M_accept 132 = .ok (.iadd, 1) := by decide +kernel
theorem d_M_accept_133 : decode c_M_accept 133 = .ok (.aload_n 0, 1) := by decide +kernel
theorem d_M_accept_134 : decode c_M_accept 134 = .ok (.getfield 22, 3) := by decide +kernel
theorem d_M_accept_137 : decode c_M_accept 137 = .ok (.iload_n 2, 1) := by decide +kernel
theorem d_M_accept_138 : decode c_M_accept 138 = .ok (.iaload, 1) := by decide +kernel
theorem d_M_accept_139 : decode c_M_accept 139 = .ok (.iastore, 1) := by decide +kernel
theorem d_M_accept_140 : decode c_M_accept 140 = .ok (.aload_n 0, 1) := by decide +kernel
theorem d_M_accept_141 : decode c_M_accept 141 = .ok (.dup, 1) := by decide +kernel
theorem d_M_accept_142 : decode c_M_accept 142 = .ok (.getfield 125, 3) := by decide +kernel
theorem d_M_accept_145 : decode c_M_accept 145 = .ok (.iconst 1, 1) := by decide +kernel
theorem d_M_accept_146 : decode c_M_accept 146 = .ok (.iadd, 1) := by decide +kernel
theorem d_M_accept_147 : decode c_M_accept 147 = .ok (.putfield 125, 3) := by decide +kernel
theorem d_M_accept_150 : decode c_M_accept 150 = .ok (.goto 32, 3) := by decide +kernel
theorem d_M_accept_153 : decode c_M_accept 153 = .ok (.iinc 1 (-2), 3) := by decide +kernel
theorem d_M_accept_156 : decode c_M_accept 156 = .ok (.aload_n 0, 1) := by decide +kernel
theorem d_M_accept_157 : decode c_M_accept 157 = .ok (.getfield 31, 3) := by decide +kernel
theorem d_M_accept_160 : decode c_M_accept 160 = .ok (.iload_n 2, 1) := by decide +kernel
theorem d_M_accept_161 : decode c_M_accept 161 = .ok (.aload_n 0, 1) := by decide +kernel
theorem d_M_accept_162 : decode c_M_accept 162 = .ok (.getfield 86, 3) := by decide +kernel
theorem d_M_accept_165 : decode c_M_accept 165 = .ok (.iload_n 1, 1) := by decide +kernel
theorem d_M_accept_166 : decode c_M_accept 166 = .ok (.iaload, 1) := by decide +kernel
theorem d_M_accept_167 : decode c_M_accept 167 = .ok (.iastore, 1) := by decide +kernel
theorem d_M_accept_168 : decode c_M_accept 168 = .ok (.aload_n 0, 1) := by decide +kernel
theorem d_M_accept_169 : decode c_M_accept 169 = .ok (.getfield 34, 3) := by decide +kernel
theorem d_M_accept_172 : decode c_M_accept 172 = .ok (.iload_n 2, 1) := by decide +kernel
theorem d_M_accept_173 : decode c_M_accept 173 = .ok (.aload_n 0, 1) := by decide +kernel
theorem d_M_accept_174 : decode c_M_accept 174 = .ok (.getfield 86, 3) := by decide +kernel
theorem d_M_accept_177 : decode c_M_accept 177 = .ok (.iload_n 1, 1) := by decide +kernel
theorem d_M_accept_178 : decode c_M_accept 178 = .ok (.iconst 1, 1) := by decide +kernel
theorem d_M_accept_179 : decode c_M_accept 179 = .ok (.iadd, 1) := by decide +kernel
theorem d_M_accept_180 : decode c_M_accept 180 = .ok (.iaload, 1) := by decide +kernel
theorem d_M_accept_181 : decode c_M_accept 181 = .ok (.iastore, 1) := by decide +kernel
theorem d_M_accept_182 : decode c_M_accept 182 = .ok (.aload_n 0, 1) := by decide +kernel
theorem d_M_accept_183 : decode c_M_accept 183 = .ok (.getfield 86, 3) := by decide +kernel
theorem d_M_accept_186 : decode c_M_accept 186 = .ok (.iload_n 1, 1) := by decide +kernel
theorem d_M_accept_187 : decode c_M_accept 187 = .ok (.iload_n 2, 1) := by decide +kernel
theorem d_M_accept_188 : decode c_M_accept 188 = .ok (.iastore, 1) := by decide +kernel
theorem d_M_accept_189 : decode c_M_accept 189 = .ok (.iinc 1 1, 3) := by decide +kernel
theorem d_M_accept_192 : decode c_M_accept 192 = .ok (.iinc 2 1, 3) := by decide +kernel
theorem d_M_accept_195 : decode c_M_accept 195 = .ok (.goto (-166), 3) := by decide +kernel
theorem d_M_accept_198 : decode c_M_accept 198 = .ok (.iconst 0, 1) := by decide +kernel
theorem d_M_accept_199 : decode c_M_accept 199 = .ok (.istore_n 2, 1) := by decide +kernel
theorem d_M_accept_200 : decode c_M_accept 200 = .ok (.iload_n 2, 1) := by decide +kernel
theorem d_M_accept_201 : decode c_M_accept 201 = .ok (.bipush 16, 2) := by decide +kernel
theorem d_M_accept_203 : decode c_M_accept 203 = .ok (.if_icmp .ge 16, 3) := by decide +kernel
theorem d_M_accept_206 : decode c_M_accept 206 = .ok (.aload_n 0, 1) := by decide +kernel
theorem d_M_accept_207 : decode c_M_accept 207 = .ok (.getfield 49, 3) := by decide +kernel
theorem d_M_accept_210 : decode c_M_accept 210 = .ok (.iload_n 2, 1) := by decide +kernel
theorem d_M_accept_211 : decode c_M_accept 211 = .ok (.iconst 0, 1) := by decide +kernel
theorem d_M_accept_212 : decode c_M_accept 212 = .ok (.iastore, 1) := by decide +kernel
theorem d_M_accept_213 : decode c_M_accept 213 = .ok (.iinc 2 1, 3) := by decide +kernel
theorem d_M_accept_216 : decode c_M_accept 216 = .ok (.goto (-16), 3) := by decide +kernel
theorem d_M_accept_219 : decode c_M_accept 219 = .ok (.iconst 0, 1) := by decide +kernel
theorem d_M_accept_220 : decode c_M_accept 220 = .ok (.istore_n 2, 1) := by decide +kernel
theorem d_M_accept_221 : decode c_M_accept 221 = .ok (.iload_n 2, 1) := by decide +kernel
theorem d_M_accept_222 : decode c_M_accept 222 = .ok (.bipush 8, 2) := by decide +kernel
theorem d_M_accept_224 : decode c_M_accept 224 = .ok (.if_icmp .ge 30, 3) := by decide +kernel
theorem d_M_accept_227 : decode c_M_accept 227 = .ok (.aload_n 0, 1) := by decide +kernel
theorem d_M_accept_228 : decode c_M_accept 228 = .ok (.getfield 52, 3) := by decide +kernel
theorem d_M_accept_231 : decode c_M_accept 231 = .ok (.iload_n 2, 1) := by decide +kernel
theorem d_M_accept_232 : decode c_M_accept 232 = .ok (.iconst 0, 1) := by decide +kernel
theorem d_M_accept_233 : decode c_M_accept 233 = .ok (.iastore, 1) := by decide +kernel
theorem d_M_accept_234 : decode c_M_accept 234 = .ok (.aload_n 0, 1) := by decide +kernel
theorem d_M_accept_235 : decode c_M_accept 235 = .ok (.getfield 55, 3) := by decide +kernel
theorem d_M_accept_238 : decode c_M_accept 238 = .ok (.iload_n 2, 1) := by decide +kernel
theorem d_M_accept_239 : decode c_M_accept 239 = .ok (.iconst 0, 1) := by decide +kernel
theorem d_M_accept_240 : decode c_M_accept 240 = .ok (.iastore, 1) := by decide +kernel
theorem d_M_accept_241 : decode c_M_accept 241 = .ok (.aload_n 0, 1) := by decide +kernel
theorem d_M_accept_242 : decode c_M_accept 242 = .ok (.getfield 46, 3) := by decide +kernel
theorem d_M_accept_245 : decode c_M_accept 245 = .ok (.iload_n 2, 1) := by decide +kernel
theorem d_M_accept_246 : decode c_M_accept 246 = .ok (.iconst (-1), 1) := by decide +kernel
theorem d_M_accept_247 : decode c_M_accept 247 = .ok (.iastore, 1) := by decide +kernel
theorem d_M_accept_248 : decode c_M_accept 248 = .ok (.iinc 2 1, 3) := by decide +kernel
theorem d_M_accept_251 : decode c_M_accept 251 = .ok (.goto (-30), 3) := by decide +kernel
theorem d_M_accept_254 : decode c_M_accept 254 = .ok (.aload_n 0, 1) := by decide +kernel
theorem d_M_accept_255 : decode c_M_accept 255 = .ok (.iconst 0, 1) := by decide +kernel
theorem d_M_accept_256 : decode c_M_accept 256 = .ok (.putfield 112, 3) := by decide +kernel
theorem d_M_accept_259 : decode c_M_accept 259 = .ok (.aload_n 0, 1) := by decide +kernel
theorem d_M_accept_260 : decode c_M_accept 260 = .ok (.iconst 0, 1) := by decide +kernel
theorem d_M_accept_261 : decode c_M_accept 261 = .ok (.putfield 128, 3) := by decide +kernel
theorem d_M_accept_264 : decode c_M_accept 264 = .ok (.aload_n 0, 1) := by decide +kernel
theorem d_M_accept_265 : decode c_M_accept 265 = .ok (.iconst 0, 1) := by decide +kernel
theorem d_M_accept_266 : decode c_M_accept 266 = .ok (.putfield 132, 3) := by decide +kernel
theorem d_M_accept_269 : decode c_M_accept 269 = .ok (.aload_n 0, 1) := by decide +kernel
theorem d_M_accept_270 : decode c_M_accept 270 = .ok (.getfield 125, 3) := by decide +kernel
theorem d_M_accept_273 : decode c_M_accept 273 = .ok (.ireturn, 1) := by decide +kernel

section MZ
variable {p : Program} {l : Launch} {e : Env} {R : Room} {s : State} {m : MethodId} {args : Array Value} {below : List Frame} {meth : Method} {c : Code} {H0 : Heap} {cells slots : Nat} {Q : State → Prop} {A : Nat → Prop} {D : va_G} {ca : Nat → ClassId} {am : Nat → Nat} {ar : Nat → Nat → Nat}
set_option maxHeartbeats 4000000 in
set_option maxRecDepth 100000 in
theorem acc_loop (hx : p.tables.exec = Jvm.exec) (hb : c.code = c_M_accept) (hml : c.maxLocals = 3) (hown : s.vm.findClass R_M = some m.cls) (hts : ∀ w ∈ zT, w.before args s = true) (hK : va_K D zC (zty ca) s) (hD : zD A 28 am) {N : Nat} {lo : Nat → Nat} (hN : N ≤ 15) (hcl : cl (ar 1) N ≤ 8) (hOK : tOK (ar 1) lo N) (kk : ∀ (n : Nat) (a : Nat → Nat → Nat) (H : Heap) (locs : List Loc) (ls : Array Slot), accI ar a lo N N n → va_P D zC (zl 28 am (mct ca am (a))) H → va_S A H0 H locs → lv_has ls 3 [(0, .ref (am 0))] → W p l e R s m args below meth c H locs cells slots Q (F0 m 198 ls [])) : ∀ (j k : Nat), k + j = N → ∀ (n : Nat) (a : Nat → Nat → Nat) (H : Heap) (locs : List Loc) (ls : Array Slot), accI ar a lo N k n → va_P D zC (zl 28 am (mct ca am (a))) H → va_S A H0 H locs → lv_has ls 3 [(2, .int (nI k)), (1, .int (nI n)), (0, .ref (am 0))] → W p l e R s m args below meth c H locs cells slots Q (F0 m 29 ls []) := by
  intro j
  induction j with
  | zero =>
    intro k hk n a H locs ls hA hP hS hl
    obtain rfl : k = N := by omega
    have h01 := hA.2.2.1
    refine lv_iload_n hx hb d_M_accept_29 rfl (lv_at hl 0 rfl) ?_
    refine lv_aload_n hx hb d_M_accept_30 rfl (lv_at hl 2 rfl) ?_
    refine mm_get hx hb hts hown hK hP (index := 122) 28 (by decide) mf_M_122 (v := .int (nI (a 0 1))) rfl d_M_accept_31 ?_
    refine zz_as (y := nI k) (congrArg nI h01) ?_
    refine lv_icmp_ge (tgt := 198) hx hb d_M_accept_34 rfl (fun h34 => ?_) (fun h34 => absurd (Int32.le_refl _) h34)
    have hl := lv_sub (l' := [(0, .ref (am 0))]) hl [2] rfl
    exact kk n a H locs ls hA hP hS hl
  | succ j ih =>
    intro k hk n a H locs ls hA hP hS hl
    obtain ⟨h1, h2, h01, h02, h5, h6, h7, h8, h9, h10⟩ := id hA
    have a1 := h1 1 (by decide) (by decide) (by decide) (by decide) (by decide) (by decide) (by decide) (by decide)
    have a2 := h1 2 (by decide) (by decide) (by decide) (by decide) (by decide) (by decide) (by decide) (by decide)
    have a3 := h1 3 (by decide) (by decide) (by decide) (by decide) (by decide) (by decide) (by decide) (by decide)
    have a4 := h1 4 (by decide) (by decide) (by decide) (by decide) (by decide) (by decide) (by decide) (by decide)
    have a5 := h1 5 (by decide) (by decide) (by decide) (by decide) (by decide) (by decide) (by decide) (by decide)
    rcases hOK k (by omega) with ⟨k0, klo⟩ | ⟨k0, k1, k2, k3⟩
    · skip
      have c1 := cl_lt (kd := ar 1) (show k < N by omega) k0
      have hL : a 0 2 < 8 := by omega
      refine lv_iload_n hx hb d_M_accept_29 rfl (lv_at hl 0 rfl) ?_
      refine lv_aload_n hx hb d_M_accept_30 rfl (lv_at hl 2 rfl) ?_
      refine mm_get hx hb hts hown hK hP (index := 122) 28 (by decide) mf_M_122 (v := .int (nI (a 0 1))) rfl d_M_accept_31 ?_
      refine zz_as (y := nI N) (congrArg nI h01) ?_
      refine lv_icmp_ge (tgt := 198) hx hb d_M_accept_34 rfl (fun h34 => absurd h34 (nI_ge (by omega) (by omega))) (fun h34 => ?_)
      refine lv_aload_n hx hb d_M_accept_37 rfl (lv_at hl 2 rfl) ?_
      refine mm_get hx hb hts hown hK hP (index := 28) 6 (by decide) mf_M_28 (v := .ref (am 7)) rfl d_M_accept_38 ?_
      refine lv_iload_n hx hb d_M_accept_41 rfl (lv_at hl 0 rfl) ?_
      refine lv_aload_n hx hb d_M_accept_42 rfl (lv_at hl 2 rfl) ?_
      refine mm_get hx hb hts hown hK hP (index := 7) 0 (by decide) mf_M_7 (v := .ref (am 1)) rfl d_M_accept_43 ?_
      refine lv_iload_n hx hb d_M_accept_46 rfl (lv_at hl 0 rfl) ?_
      refine mm_ald hx hb hK hP 0 (by decide) rfl (k) rfl (show k < 90 from by omega) (ar 1 k) (congrFun a1 k) d_M_accept_47 ?_
      refine mm_ast hx hb hK hP hD hS 6 (by decide) rfl (k) rfl (show k < 15 from by omega) (ar 1 k) (rfl) d_M_accept_48 (fun H locs hP hS => ?_)
      refine lv_aload_n hx hb d_M_accept_49 rfl (lv_at hl 2 rfl) ?_
      refine mm_get hx hb hts hown hK hP (index := 7) 0 (by decide) mf_M_7 (v := .ref (am 1)) rfl d_M_accept_50 ?_
      refine lv_iload_n hx hb d_M_accept_53 rfl (lv_at hl 0 rfl) ?_
      refine mm_ald hx hb hK hP 0 (by decide) rfl (k) rfl (show k < 90 from by omega) (ar 1 k) (congrFun a1 k) d_M_accept_54 ?_
      refine lv_if_ne (tgt := 153) hx hb d_M_accept_55 rfl (fun h55 => absurd (by rw [k0]; rfl) h55) (fun h55 => ?_)
      refine lv_aload_n hx hb d_M_accept_58 rfl (lv_at hl 2 rfl) ?_
      refine mm_get hx hb hts hown hK hP (index := 37) 9 (by decide) mf_M_37 (v := .ref (am 10)) rfl d_M_accept_59 ?_
      refine lv_iload_n hx hb d_M_accept_62 rfl (lv_at hl 0 rfl) ?_
      refine lv_aload_n hx hb d_M_accept_63 rfl (lv_at hl 2 rfl) ?_
      refine mm_get hx hb hts hown hK hP (index := 125) 29 (by decide) mf_M_125 (v := .int (nI (a 0 2))) rfl d_M_accept_64 ?_
      refine mm_ast hx hb hK hP hD hS 9 (by decide) rfl (k) rfl (show k < 15 from by omega) (a 0 2) (rfl) d_M_accept_67 (fun H locs hP hS => ?_)
      refine lv_aload_n hx hb d_M_accept_68 rfl (lv_at hl 2 rfl) ?_
      refine mm_get hx hb hts hown hK hP (index := 40) 10 (by decide) mf_M_40 (v := .ref (am 11)) rfl d_M_accept_69 ?_
      refine lv_iconst (v := 2) hx hb d_M_accept_72 rfl ?_
      refine lv_aload_n hx hb d_M_accept_73 rfl (lv_at hl 2 rfl) ?_
      refine mm_get hx hb hts hown hK hP (index := 125) 29 (by decide) mf_M_125 (v := .int (nI (a 0 2))) rfl d_M_accept_74 ?_
      refine lv_imul hx hb d_M_accept_77 ?_
      refine zz_as (y := nI (2 * (a 0 2))) (pk_mul 2 (a 0 2)) ?_
      refine lv_aload_n hx hb d_M_accept_78 rfl (lv_at hl 2 rfl) ?_
      refine mm_get hx hb hts hown hK hP (index := 13) 1 (by decide) mf_M_13 (v := .ref (am 2)) rfl d_M_accept_79 ?_
      refine lv_iload_n hx hb d_M_accept_82 rfl (lv_at hl 0 rfl) ?_
      refine mm_ald hx hb hK hP 1 (by decide) rfl (k) rfl (show k < 90 from by omega) (ar 2 k) (congrFun a2 k) d_M_accept_83 ?_
      refine mm_ast hx hb hK hP hD hS 10 (by decide) rfl (2 * (a 0 2)) rfl (show 2 * (a 0 2) < 16 from by omega) (ar 2 k) (rfl) d_M_accept_84 (fun H locs hP hS => ?_)
      refine lv_aload_n hx hb d_M_accept_85 rfl (lv_at hl 2 rfl) ?_
      refine mm_get hx hb hts hown hK hP (index := 43) 11 (by decide) mf_M_43 (v := .ref (am 12)) rfl d_M_accept_86 ?_
      refine lv_iconst (v := 2) hx hb d_M_accept_89 rfl ?_
      refine lv_aload_n hx hb d_M_accept_90 rfl (lv_at hl 2 rfl) ?_
      refine mm_get hx hb hts hown hK hP (index := 125) 29 (by decide) mf_M_125 (v := .int (nI (a 0 2))) rfl d_M_accept_91 ?_
      refine lv_imul hx hb d_M_accept_94 ?_
      refine zz_as (y := nI (2 * (a 0 2))) (pk_mul 2 (a 0 2)) ?_
      refine lv_aload_n hx hb d_M_accept_95 rfl (lv_at hl 2 rfl) ?_
      refine mm_get hx hb hts hown hK hP (index := 16) 2 (by decide) mf_M_16 (v := .ref (am 3)) rfl d_M_accept_96 ?_
      refine lv_iload_n hx hb d_M_accept_99 rfl (lv_at hl 0 rfl) ?_
      refine mm_ald hx hb hK hP 2 (by decide) rfl (k) rfl (show k < 90 from by omega) (ar 3 k) (congrFun a3 k) d_M_accept_100 ?_
      refine mm_ast hx hb hK hP hD hS 11 (by decide) rfl (2 * (a 0 2)) rfl (show 2 * (a 0 2) < 16 from by omega) (ar 3 k) (rfl) d_M_accept_101 (fun H locs hP hS => ?_)
      refine lv_aload_n hx hb d_M_accept_102 rfl (lv_at hl 2 rfl) ?_
      refine mm_get hx hb hts hown hK hP (index := 40) 10 (by decide) mf_M_40 (v := .ref (am 11)) rfl d_M_accept_103 ?_
      refine lv_iconst (v := 2) hx hb d_M_accept_106 rfl ?_
      refine lv_aload_n hx hb d_M_accept_107 rfl (lv_at hl 2 rfl) ?_
      refine mm_get hx hb hts hown hK hP (index := 125) 29 (by decide) mf_M_125 (v := .int (nI (a 0 2))) rfl d_M_accept_108 ?_
      refine lv_imul hx hb d_M_accept_111 ?_
      refine zz_as (y := nI (2 * (a 0 2))) (pk_mul 2 (a 0 2)) ?_
      refine lv_iconst (v := 1) hx hb d_M_accept_112 rfl ?_
      refine lv_iadd hx hb d_M_accept_113 ?_
      refine zz_as (y := nI ((2 * (a 0 2)) + 1)) (nI_add (2 * (a 0 2)) 1) ?_
      refine lv_aload_n hx hb d_M_accept_114 rfl (lv_at hl 2 rfl) ?_
      refine mm_get hx hb hts hown hK hP (index := 19) 3 (by decide) mf_M_19 (v := .ref (am 4)) rfl d_M_accept_115 ?_
      refine lv_iload_n hx hb d_M_accept_118 rfl (lv_at hl 0 rfl) ?_
      refine mm_ald hx hb hK hP 3 (by decide) rfl (k) rfl (show k < 90 from by omega) (ar 4 k) (congrFun a4 k) d_M_accept_119 ?_
      refine mm_ast hx hb hK hP hD hS 10 (by decide) rfl ((2 * (a 0 2)) + 1) rfl (show (2 * (a 0 2)) + 1 < 16 from by omega) (ar 4 k) (rfl) d_M_accept_120 (fun H locs hP hS => ?_)
      refine lv_aload_n hx hb d_M_accept_121 rfl (lv_at hl 2 rfl) ?_
      refine mm_get hx hb hts hown hK hP (index := 43) 11 (by decide) mf_M_43 (v := .ref (am 12)) rfl d_M_accept_122 ?_
      refine lv_iconst (v := 2) hx hb d_M_accept_125 rfl ?_
      refine lv_aload_n hx hb d_M_accept_126 rfl (lv_at hl 2 rfl) ?_
      refine mm_get hx hb hts hown hK hP (index := 125) 29 (by decide) mf_M_125 (v := .int (nI (a 0 2))) rfl d_M_accept_127 ?_
      refine lv_imul hx hb d_M_accept_130 ?_
      refine zz_as (y := nI (2 * (a 0 2))) (pk_mul 2 (a 0 2)) ?_
      refine lv_iconst (v := 1) hx hb d_M_accept_131 rfl ?_
      refine lv_iadd hx hb d_M_accept_132 ?_
      refine zz_as (y := nI ((2 * (a 0 2)) + 1)) (nI_add (2 * (a 0 2)) 1) ?_
      refine lv_aload_n hx hb d_M_accept_133 rfl (lv_at hl 2 rfl) ?_
      refine mm_get hx hb hts hown hK hP (index := 22) 4 (by decide) mf_M_22 (v := .ref (am 5)) rfl d_M_accept_134 ?_
      refine lv_iload_n hx hb d_M_accept_137 rfl (lv_at hl 0 rfl) ?_
      refine mm_ald hx hb hK hP 4 (by decide) rfl (k) rfl (show k < 90 from by omega) (ar 5 k) (congrFun a5 k) d_M_accept_138 ?_
      refine mm_ast hx hb hK hP hD hS 11 (by decide) rfl ((2 * (a 0 2)) + 1) rfl (show (2 * (a 0 2)) + 1 < 16 from by omega) (ar 5 k) (rfl) d_M_accept_139 (fun H locs hP hS => ?_)
      refine lv_aload_n hx hb d_M_accept_140 rfl (lv_at hl 2 rfl) ?_
      refine lv_dup hx hb d_M_accept_141 rfl ?_
      refine mm_get hx hb hts hown hK hP (index := 125) 29 (by decide) mf_M_125 (v := .int (nI (a 0 2))) rfl d_M_accept_142 ?_
      refine lv_iconst (v := 1) hx hb d_M_accept_145 rfl ?_
      refine lv_iadd hx hb d_M_accept_146 ?_
      refine zz_as (y := nI ((a 0 2) + 1)) (nI_add (a 0 2) 1) ?_
      refine mm_put hx hb hts hown hK hP hD hS (index := 125) 2 (by decide) mf_M_125 ((a 0 2) + 1) (rfl) rfl rfl d_M_accept_147 (fun H locs hP hS => ?_)
      refine lv_goto (tgt := 182) hx hb d_M_accept_150 rfl ?_
      refine lv_aload_n hx hb d_M_accept_182 rfl (lv_at hl 2 rfl) ?_
      refine mm_get hx hb hts hown hK hP (index := 86) 25 (by decide) mf_M_86 (v := .ref (am 26)) rfl d_M_accept_183 ?_
      refine lv_iload_n hx hb d_M_accept_186 rfl (lv_at hl 1 rfl) ?_
      refine lv_iload_n hx hb d_M_accept_187 rfl (lv_at hl 0 rfl) ?_
      refine mm_ast hx hb hK hP hD hS 25 (by decide) rfl (n) rfl (show n < 15 from by omega) (k) (rfl) d_M_accept_188 (fun H locs hP hS => ?_)
      refine lv_iinc (k := 1) (v := nI (n + 1)) (lv' := [(1, .int (nI (n + 1))), (2, .int (nI k)), (0, .ref (am 0))]) hx hb d_M_accept_189 hl rfl (nI_1 _) (by decide) rfl (fun ls hl => ?_)
      refine lv_iinc (k := 1) (v := nI (k + 1)) (lv' := [(2, .int (nI (k + 1))), (1, .int (nI (n + 1))), (0, .ref (am 0))]) hx hb d_M_accept_192 hl rfl (nI_1 _) (by decide) rfl (fun ls hl => ?_)
      refine lv_goto (tgt := 29) hx hb d_M_accept_195 rfl ?_
      have hl := lv_sub (l' := [(2, .int (nI (k + 1))), (1, .int (nI (n + 1))), (0, .ref (am 0))]) hl [0, 1, 2] rfl
      exact ih (k + 1) (by omega) (n + 1) _ H locs ls (accI_leaf hA k0 klo) hP hS hl
    · skip
      have kn : ar 1 k ≠ 0 := by rcases k0 with q | q <;> rw [q] <;> decide
      have kb : ar 1 k < 3 := by rcases k0 with q | q <;> rw [q] <;> decide
      obtain ⟨n2, v0, v1, hA2⟩ := accI_join hA kn k1 k2 k3
      refine lv_iload_n hx hb d_M_accept_29 rfl (lv_at hl 0 rfl) ?_
      refine lv_aload_n hx hb d_M_accept_30 rfl (lv_at hl 2 rfl) ?_
      refine mm_get hx hb hts hown hK hP (index := 122) 28 (by decide) mf_M_122 (v := .int (nI (a 0 1))) rfl d_M_accept_31 ?_
      refine zz_as (y := nI N) (congrArg nI h01) ?_
      refine lv_icmp_ge (tgt := 198) hx hb d_M_accept_34 rfl (fun h34 => absurd h34 (nI_ge (by omega) (by omega))) (fun h34 => ?_)
      refine lv_aload_n hx hb d_M_accept_37 rfl (lv_at hl 2 rfl) ?_
      refine mm_get hx hb hts hown hK hP (index := 28) 6 (by decide) mf_M_28 (v := .ref (am 7)) rfl d_M_accept_38 ?_
      refine lv_iload_n hx hb d_M_accept_41 rfl (lv_at hl 0 rfl) ?_
      refine lv_aload_n hx hb d_M_accept_42 rfl (lv_at hl 2 rfl) ?_
      refine mm_get hx hb hts hown hK hP (index := 7) 0 (by decide) mf_M_7 (v := .ref (am 1)) rfl d_M_accept_43 ?_
      refine lv_iload_n hx hb d_M_accept_46 rfl (lv_at hl 0 rfl) ?_
      refine mm_ald hx hb hK hP 0 (by decide) rfl (k) rfl (show k < 90 from by omega) (ar 1 k) (congrFun a1 k) d_M_accept_47 ?_
      refine mm_ast hx hb hK hP hD hS 6 (by decide) rfl (k) rfl (show k < 15 from by omega) (ar 1 k) (rfl) d_M_accept_48 (fun H locs hP hS => ?_)
      refine lv_aload_n hx hb d_M_accept_49 rfl (lv_at hl 2 rfl) ?_
      refine mm_get hx hb hts hown hK hP (index := 7) 0 (by decide) mf_M_7 (v := .ref (am 1)) rfl d_M_accept_50 ?_
      refine lv_iload_n hx hb d_M_accept_53 rfl (lv_at hl 0 rfl) ?_
      refine mm_ald hx hb hK hP 0 (by decide) rfl (k) rfl (show k < 90 from by omega) (ar 1 k) (congrFun a1 k) d_M_accept_54 ?_
      refine lv_if_ne (tgt := 153) hx hb d_M_accept_55 rfl (fun h55 => ?_) (fun h55 => absurd h55 (fun q => kn ((zn_inj (by omega) (by decide)).mp q)))
      refine lv_iinc (k := 1) (v := (nI n) + (-2)) (lv' := [(1, .int ((nI n) + (-2))), (2, .int (nI k)), (0, .ref (am 0))]) hx hb d_M_accept_153 hl rfl rfl (by decide) rfl (fun ls hl => ?_)
      rw [zn_dec2 n2] at hl
      refine lv_aload_n hx hb d_M_accept_156 rfl (lv_at hl 2 rfl) ?_
      refine mm_get hx hb hts hown hK hP (index := 31) 7 (by decide) mf_M_31 (v := .ref (am 8)) rfl d_M_accept_157 ?_
      refine lv_iload_n hx hb d_M_accept_160 rfl (lv_at hl 1 rfl) ?_
      refine lv_aload_n hx hb d_M_accept_161 rfl (lv_at hl 2 rfl) ?_
      refine mm_get hx hb hts hown hK hP (index := 86) 25 (by decide) mf_M_86 (v := .ref (am 26)) rfl d_M_accept_162 ?_
      refine lv_iload_n hx hb d_M_accept_165 rfl (lv_at hl 0 rfl) ?_
      refine mm_ald hx hb hK hP 25 (by decide) rfl (n - 2) rfl (show n - 2 < 15 from by omega) (a 26 (n - 2)) (rfl) d_M_accept_166 ?_
      refine mm_ast hx hb hK hP hD hS 7 (by decide) rfl (k) rfl (show k < 15 from by omega) (a 26 (n - 2)) (rfl) d_M_accept_167 (fun H locs hP hS => ?_)
      refine lv_aload_n hx hb d_M_accept_168 rfl (lv_at hl 2 rfl) ?_
      refine mm_get hx hb hts hown hK hP (index := 34) 8 (by decide) mf_M_34 (v := .ref (am 9)) rfl d_M_accept_169 ?_
      refine lv_iload_n hx hb d_M_accept_172 rfl (lv_at hl 1 rfl) ?_
      refine lv_aload_n hx hb d_M_accept_173 rfl (lv_at hl 2 rfl) ?_
      refine mm_get hx hb hts hown hK hP (index := 86) 25 (by decide) mf_M_86 (v := .ref (am 26)) rfl d_M_accept_174 ?_
      refine lv_iload_n hx hb d_M_accept_177 rfl (lv_at hl 0 rfl) ?_
      refine lv_iconst (v := 1) hx hb d_M_accept_178 rfl ?_
      refine lv_iadd hx hb d_M_accept_179 ?_
      refine zz_as (y := nI ((n - 2) + 1)) (nI_add (n - 2) 1) ?_
      refine mm_ald hx hb hK hP 25 (by decide) rfl ((n - 2) + 1) rfl (show (n - 2) + 1 < 15 from by omega) (a 26 (n - 2 + 1)) (rfl) d_M_accept_180 ?_
      refine mm_ast hx hb hK hP hD hS 8 (by decide) rfl (k) rfl (show k < 15 from by omega) (a 26 (n - 2 + 1)) (rfl) d_M_accept_181 (fun H locs hP hS => ?_)
      refine lv_aload_n hx hb d_M_accept_182 rfl (lv_at hl 2 rfl) ?_
      refine mm_get hx hb hts hown hK hP (index := 86) 25 (by decide) mf_M_86 (v := .ref (am 26)) rfl d_M_accept_183 ?_
      refine lv_iload_n hx hb d_M_accept_186 rfl (lv_at hl 0 rfl) ?_
      refine lv_iload_n hx hb d_M_accept_187 rfl (lv_at hl 1 rfl) ?_
      refine mm_ast hx hb hK hP hD hS 25 (by decide) rfl (n - 2) rfl (show n - 2 < 15 from by omega) (k) (rfl) d_M_accept_188 (fun H locs hP hS => ?_)
      refine lv_iinc (k := 0) (v := nI ((n - 2) + 1)) (lv' := [(1, .int (nI ((n - 2) + 1))), (2, .int (nI k)), (0, .ref (am 0))]) hx hb d_M_accept_189 hl rfl (nI_1 _) (by decide) rfl (fun ls hl => ?_)
      refine lv_iinc (k := 1) (v := nI (k + 1)) (lv' := [(2, .int (nI (k + 1))), (1, .int (nI ((n - 2) + 1))), (0, .ref (am 0))]) hx hb d_M_accept_192 hl rfl (nI_1 _) (by decide) rfl (fun ls hl => ?_)
      refine lv_goto (tgt := 29) hx hb d_M_accept_195 rfl ?_
      have hl := lv_sub (l' := [(2, .int (nI (k + 1))), (1, .int (nI ((n - 2) + 1))), (0, .ref (am 0))]) hl [0, 1, 2] rfl
      exact ih (k + 1) (by omega) (n - 2 + 1) _ H locs ls hA2 hP hS hl
set_option maxHeartbeats 4000000 in
set_option maxRecDepth 100000 in
theorem acc_z1 (hx : p.tables.exec = Jvm.exec) (hb : c.code = c_M_accept) (hml : c.maxLocals = 3) (hown : s.vm.findClass R_M = some m.cls) (hts : ∀ w ∈ zT, w.before args s = true) (hK : va_K D zC (zty ca) s) (hD : zD A 28 am) (kk : ∀ (h : Nat → Nat) (H : Heap) (locs : List Loc) (ls : Array Slot), (∀ i, i < 16 → h i = 0) → va_P D zC (zl 28 am (mct ca am (va_up ar 14 h))) H → va_S A H0 H locs → lv_has ls 3 [(0, .ref (am 0))] → W p l e R s m args below meth c H locs cells slots Q (F0 m 219 ls [])) : ∀ (j k : Nat), k + j = 16 → ∀ (h : Nat → Nat) (H : Heap) (locs : List Loc) (ls : Array Slot), (∀ i, i < k → h i = 0) → va_P D zC (zl 28 am (mct ca am (va_up ar 14 h))) H → va_S A H0 H locs → lv_has ls 3 [(2, .int (nI k)), (0, .ref (am 0))] → W p l e R s m args below meth c H locs cells slots Q (F0 m 200 ls []) := by
  intro j
  induction j with
  | zero =>
    intro k hk h H locs ls hh hP hS hl
    obtain rfl : k = 16 := by omega
    refine lv_iload_n hx hb d_M_accept_200 rfl (lv_at hl 0 rfl) ?_
    refine lv_bipush (v := 16) hx hb d_M_accept_201 rfl ?_
    refine lv_icmp_ge (tgt := 219) hx hb d_M_accept_203 rfl (fun h203 => ?_) (fun h203 => absurd (by decide) h203)
    have hl := lv_sub (l' := [(0, .ref (am 0))]) hl [1] rfl
    exact kk h H locs ls hh hP hS hl
  | succ j ih =>
    intro k hk h H locs ls hh hP hS hl
    refine lv_iload_n hx hb d_M_accept_200 rfl (lv_at hl 0 rfl) ?_
    refine lv_bipush (v := 16) hx hb d_M_accept_201 rfl ?_
    refine lv_icmp_ge (tgt := 219) hx hb d_M_accept_203 rfl (fun h203 => absurd h203 (nI_ge (b := 16) (by omega) (by decide))) (fun h203 => ?_)
    refine lv_aload_n hx hb d_M_accept_206 rfl (lv_at hl 1 rfl) ?_
    refine mm_get hx hb hts hown hK hP (index := 49) 13 (by decide) mf_M_49 (v := .ref (am 14)) rfl d_M_accept_207 ?_
    refine lv_iload_n hx hb d_M_accept_210 rfl (lv_at hl 0 rfl) ?_
    refine lv_iconst (v := 0) hx hb d_M_accept_211 rfl ?_
    refine mm_ast hx hb hK hP hD hS 13 (by decide) rfl (k) rfl (show k < 16 from by omega) (0) (rfl) d_M_accept_212 (fun H locs hP hS => ?_)
    refine lv_iinc (k := 0) (v := nI (k + 1)) (lv' := [(2, .int (nI (k + 1))), (0, .ref (am 0))]) hx hb d_M_accept_213 hl rfl (nI_1 _) (by decide) rfl (fun ls hl => ?_)
    refine lv_goto (tgt := 200) hx hb d_M_accept_216 rfl ?_
    rw [zs_up] at hP
    have hl := lv_sub (l' := [(2, .int (nI (k + 1))), (0, .ref (am 0))]) hl [0, 1] rfl
    exact ih (k + 1) (by omega) (va_up h k 0) H locs ls (up_c hh) hP hS hl
set_option maxHeartbeats 4000000 in
set_option maxRecDepth 100000 in
theorem acc_z2 (hx : p.tables.exec = Jvm.exec) (hb : c.code = c_M_accept) (hml : c.maxLocals = 3) (hown : s.vm.findClass R_M = some m.cls) (hts : ∀ w ∈ zT, w.before args s = true) (hK : va_K D zC (zty ca) s) (hD : zD A 28 am) (kk : ∀ (h2 h3 h4 : Nat → Nat) (H : Heap) (locs : List Loc) (ls : Array Slot), (∀ i, i < 8 → h2 i = 0) → (∀ i, i < 8 → h3 i = 0) → (∀ i, i < 8 → h4 i = 4294967295) → va_P D zC (zl 28 am (mct ca am (va_up (va_up (va_up ar 15 h2) 16 h3) 13 h4))) H → va_S A H0 H locs → lv_has ls 3 [(0, .ref (am 0))] → W p l e R s m args below meth c H locs cells slots Q (F0 m 254 ls [])) : ∀ (j k : Nat), k + j = 8 → ∀ (h2 h3 h4 : Nat → Nat) (H : Heap) (locs : List Loc) (ls : Array Slot), (∀ i, i < k → h2 i = 0) → (∀ i, i < k → h3 i = 0) → (∀ i, i < k → h4 i = 4294967295) → va_P D zC (zl 28 am (mct ca am (va_up (va_up (va_up ar 15 h2) 16 h3) 13 h4))) H → va_S A H0 H locs → lv_has ls 3 [(2, .int (nI k)), (0, .ref (am 0))] → W p l e R s m args below meth c H locs cells slots Q (F0 m 221 ls []) := by
  intro j
  induction j with
  | zero =>
    intro k hk h2 h3 h4 H locs ls q2 q3 q4 hP hS hl
    obtain rfl : k = 8 := by omega
    refine lv_iload_n hx hb d_M_accept_221 rfl (lv_at hl 0 rfl) ?_
    refine lv_bipush (v := 8) hx hb d_M_accept_222 rfl ?_
    refine lv_icmp_ge (tgt := 254) hx hb d_M_accept_224 rfl (fun h224 => ?_) (fun h224 => absurd (by decide) h224)
    have hl := lv_sub (l' := [(0, .ref (am 0))]) hl [1] rfl
    exact kk h2 h3 h4 H locs ls q2 q3 q4 hP hS hl
  | succ j ih =>
    intro k hk h2 h3 h4 H locs ls q2 q3 q4 hP hS hl
    refine lv_iload_n hx hb d_M_accept_221 rfl (lv_at hl 0 rfl) ?_
    refine lv_bipush (v := 8) hx hb d_M_accept_222 rfl ?_
    refine lv_icmp_ge (tgt := 254) hx hb d_M_accept_224 rfl (fun h224 => absurd h224 (nI_ge (b := 8) (by omega) (by decide))) (fun h224 => ?_)
    refine lv_aload_n hx hb d_M_accept_227 rfl (lv_at hl 1 rfl) ?_
    refine mm_get hx hb hts hown hK hP (index := 52) 14 (by decide) mf_M_52 (v := .ref (am 15)) rfl d_M_accept_228 ?_
    refine lv_iload_n hx hb d_M_accept_231 rfl (lv_at hl 0 rfl) ?_
    refine lv_iconst (v := 0) hx hb d_M_accept_232 rfl ?_
    refine mm_ast hx hb hK hP hD hS 14 (by decide) rfl (k) rfl (show k < 8 from by omega) (0) (rfl) d_M_accept_233 (fun H locs hP hS => ?_)
    refine lv_aload_n hx hb d_M_accept_234 rfl (lv_at hl 1 rfl) ?_
    refine mm_get hx hb hts hown hK hP (index := 55) 15 (by decide) mf_M_55 (v := .ref (am 16)) rfl d_M_accept_235 ?_
    refine lv_iload_n hx hb d_M_accept_238 rfl (lv_at hl 0 rfl) ?_
    refine lv_iconst (v := 0) hx hb d_M_accept_239 rfl ?_
    refine mm_ast hx hb hK hP hD hS 15 (by decide) rfl (k) rfl (show k < 8 from by omega) (0) (rfl) d_M_accept_240 (fun H locs hP hS => ?_)
    refine lv_aload_n hx hb d_M_accept_241 rfl (lv_at hl 1 rfl) ?_
    refine mm_get hx hb hts hown hK hP (index := 46) 12 (by decide) mf_M_46 (v := .ref (am 13)) rfl d_M_accept_242 ?_
    refine lv_iload_n hx hb d_M_accept_245 rfl (lv_at hl 0 rfl) ?_
    refine lv_iconst (v := (-1)) hx hb d_M_accept_246 rfl ?_
    refine mm_ast hx hb hK hP hD hS 12 (by decide) rfl (k) rfl (show k < 8 from by omega) (4294967295) (zn_m1.symm) d_M_accept_247 (fun H locs hP hS => ?_)
    refine lv_iinc (k := 0) (v := nI (k + 1)) (lv' := [(2, .int (nI (k + 1))), (0, .ref (am 0))]) hx hb d_M_accept_248 hl rfl (nI_1 _) (by decide) rfl (fun ls hl => ?_)
    refine lv_goto (tgt := 221) hx hb d_M_accept_251 rfl ?_
    rw [zs_upn (i := 13) (j := 15) _ _ _ _ (by decide), zs_upn (i := 16) (j := 15) _ _ _ _ (by decide), zs_up, zs_upn (i := 13) (j := 16) _ _ _ _ (by decide), zs_up, zs_up] at hP
    have hl := lv_sub (l' := [(2, .int (nI (k + 1))), (0, .ref (am 0))]) hl [0, 1] rfl
    exact ih (k + 1) (by omega) (va_up h2 k 0) (va_up h3 k 0) (va_up h4 k 4294967295) H locs ls (up_c q2) (up_c q3) (up_c q4) hP hS hl
end MZ

theorem accI_0 (ar : Nat → Nat → Nat) (lo : Nat → Nat) (N : Nat) : accI ar (zs (zs ar 0 1 N) 0 2 0) lo N 0 0 := by
  refine ⟨fun j j0 _ _ _ _ _ _ _ => by rw [zs_row _ _ _ j0, zs_row _ _ _ j0], fun i i1 i2 => by simp [zs_at, i1, i2], by simp [zs_at], by simp [zs_at, cl], fun i hi => absurd hi (Nat.not_lt_zero _), Nat.le_refl _, fun q => absurd q (Nat.lt_irrefl _), fun j _ q => absurd q (Nat.not_lt_zero _), fun q => absurd q (Nat.lt_irrefl _), fun j q => absurd q (Nat.not_lt_zero _)⟩

set_option maxHeartbeats 4000000 in
set_option maxRecDepth 100000 in
/-- accept() -/
theorem k_acceptM (l : Launch) (D : va_G) (ca : Nat → ClassId) (am : Nat → Nat) (ar : Nat → Nat → Nat) (hI : mI am) (lo : Nat → Nat) (ht : ar 0 0 ≤ 6) (hst : ar 0 0 = 1 → ar 6 1 ≤ 15 ∧ cl (ar 1) (ar 6 1) ≤ 8 ∧ tOK (ar 1) lo (ar 6 1)) : Met l y_M_accept (Cond.code y_M_accept c_M_accept 3 (some .int) :: zT) ({ frames := 1, cells := 0, slots := 0, locals := 40 }) (va_Pc [.ref (am 0)] (mw D ca am ar)) (va_Qi (fun r ar1 => (¬ ar 0 0 = 1 ∧ r = -1 ∧ ar1 = ar) ∨ (ar 0 0 = 1 ∧ ∃ (a : Nat → Nat → Nat) (n : Nat) (h h2 h3 h4 : Nat → Nat), accI ar a lo (ar 6 1) (ar 6 1) n ∧ (∀ i, i < 16 → h i = 0) ∧ (∀ i, i < 8 → h2 i = 0) ∧ (∀ i, i < 8 → h3 i = 0) ∧ (∀ i, i < 8 → h4 i = 4294967295) ∧ ar1 = zs (zs (zs (va_up (va_up (va_up (va_up a 14 h) 15 h2) 16 h3) 13 h4) 0 0 0) 0 3 0) 0 4 0 ∧ r = nI (a 0 2))) (mw D ca am) (mA am)) 0 0 (mA am) := by
  refine Met.ofW (cc := c_M_accept) (maxL := 3) (ret := (some .int)) (by decide) rfl ?_
  intro p e s m args below meth c s₁ B hml hv
  obtain ⟨rfl, hK, hP⟩ := hv
  have hx := B.exec
  have hb := B.bytes
  have hr := B.returns
  have hts0 := atoms_spec (ws := Cond.code y_M_accept c_M_accept 3 (some .int) :: zT) B.pre
  have hts := fun w h => hts0 w (List.mem_cons_of_mem _ h)
  have hown : s.vm.findClass R_M = some m.cls := findClass_of_methodNamed B.named
  have hlocks := B.notSynchronized
  have hD := mI_D hI
  have hS : va_S (mA am) s.heap s.heap [] := va_S.rf
  have hAA : ∀ q, mA am q → mA am q := fun _ h => h
  have hl := lv_entry ([.ref (am 0)]) (n := 3) (Nat.le_of_ble_eq_true rfl)
  rw [lg_entry_eq]
  generalize (lg_sl ([.ref (am 0)]) ++ List.replicate (3 - (lg_sl ([.ref (am 0)])).length) Slot.unset).toArray = ls at hl ⊢
  have hl : lv_has ls 3 [(0, .ref (am 0))] := hl
  skip
  refine lv_aload_n hx hb d_M_accept_0 rfl (lv_at hl 0 rfl) ?_
  refine mm_get hx hb hts hown hK hP (index := 112) 27 (by decide) mf_M_112 (v := .int (nI (ar 0 0))) rfl d_M_accept_1 ?_
  refine lv_iconst (v := 1) hx hb d_M_accept_4 rfl ?_
  refine lv_icmp_eq (tgt := 10) hx hb d_M_accept_5 rfl (fun h5 => ?_) (fun h5 => ?_)
  · skip
    have z : ar 0 0 = 1 := (zn_inj (by omega) (by decide)).mp h5
    obtain ⟨hN, hcl, hOK⟩ := hst z
    refine lv_aload_n hx hb d_M_accept_10 rfl (lv_at hl 0 rfl) ?_
    refine lv_aload_n hx hb d_M_accept_11 rfl (lv_at hl 0 rfl) ?_
    refine mm_get hx hb hts hown hK hP (index := 25) 5 (by decide) mf_M_25 (v := .ref (am 6)) rfl d_M_accept_12 ?_
    refine lv_iconst (v := 1) hx hb d_M_accept_15 rfl ?_
    refine mm_ald hx hb hK hP 5 (by decide) rfl (1) rfl (show 1 < 7 from by omega) (ar 6 1) (rfl) d_M_accept_16 ?_
    refine mm_put hx hb hts hown hK hP hD hS (index := 122) 1 (by decide) mf_M_122 (ar 6 1) (rfl) rfl rfl d_M_accept_17 (fun H locs hP hS => ?_)
    refine lv_aload_n hx hb d_M_accept_20 rfl (lv_at hl 0 rfl) ?_
    refine lv_iconst (v := 0) hx hb d_M_accept_21 rfl ?_
    refine mm_put hx hb hts hown hK hP hD hS (index := 125) 2 (by decide) mf_M_125 (0) (rfl) rfl rfl d_M_accept_22 (fun H locs hP hS => ?_)
    refine lv_iconst (v := 0) hx hb d_M_accept_25 rfl ?_
    refine lv_istore_n (lv' := [(1, .int 0), (0, .ref (am 0))]) hx hb d_M_accept_26 rfl hl (by decide) rfl (fun ls hl => ?_)
    refine lv_iconst (v := 0) hx hb d_M_accept_27 rfl ?_
    refine lv_istore_n (lv' := [(2, .int 0), (1, .int 0), (0, .ref (am 0))]) hx hb d_M_accept_28 rfl hl (by decide) rfl (fun ls hl => ?_)
    have hl : lv_has ls 3 [(2, .int (nI 0)), (1, .int (nI 0)), (0, .ref (am 0))] := hl
    refine acc_loop (ar := ar) (N := ar 6 1) (lo := lo) hx hb hml hown hts hK hD hN hcl hOK (fun n a H locs ls hA hP hS hl => ?_) (ar 6 1) 0 (Nat.zero_add _) 0 _ H locs ls (accI_0 ar lo (ar 6 1)) hP hS hl
    refine lv_iconst (v := 0) hx hb d_M_accept_198 rfl ?_
    refine lv_istore_n (lv' := [(2, .int 0), (0, .ref (am 0))]) hx hb d_M_accept_199 rfl hl (by decide) rfl (fun ls hl => ?_)
    have hP : va_P D zC (zl 28 am (mct ca am (va_up a 14 (a 14)))) H := by rw [va_up_row]; exact hP
    refine acc_z1 hx hb hml hown hts hK hD (fun h H locs ls hh hP hS hl => ?_) 16 0 rfl (a 14) H locs ls (fun _ q => absurd q (Nat.not_lt_zero _)) hP hS hl
    refine lv_iconst (v := 0) hx hb d_M_accept_219 rfl ?_
    refine lv_istore_n (lv' := [(2, .int 0), (0, .ref (am 0))]) hx hb d_M_accept_220 rfl hl (by decide) rfl (fun ls hl => ?_)
    have hP : va_P D zC (zl 28 am (mct ca am (va_up (va_up (va_up (va_up a 14 h) 15 (a 15)) 16 (a 16)) 13 (a 13)))) H := by
      rw [show a 15 = (va_up a 14 h) 15 from rfl, va_up_row, show a 16 = (va_up a 14 h) 16 from rfl, va_up_row, show a 13 = (va_up a 14 h) 13 from rfl, va_up_row]; exact hP
    refine acc_z2 hx hb hml hown hts hK hD (fun h2 h3 h4 H locs ls q2 q3 q4 hP hS hl => ?_) 8 0 rfl (a 15) (a 16) (a 13) H locs ls (fun _ q => absurd q (Nat.not_lt_zero _)) (fun _ q => absurd q (Nat.not_lt_zero _)) (fun _ q => absurd q (Nat.not_lt_zero _)) hP hS hl
    refine lv_aload_n hx hb d_M_accept_254 rfl (lv_at hl 0 rfl) ?_
    refine lv_iconst (v := 0) hx hb d_M_accept_255 rfl ?_
    refine mm_put hx hb hts hown hK hP hD hS (index := 112) 0 (by decide) mf_M_112 (0) (rfl) rfl rfl d_M_accept_256 (fun H locs hP hS => ?_)
    refine lv_aload_n hx hb d_M_accept_259 rfl (lv_at hl 0 rfl) ?_
    refine lv_iconst (v := 0) hx hb d_M_accept_260 rfl ?_
    refine mm_put hx hb hts hown hK hP hD hS (index := 128) 3 (by decide) mf_M_128 (0) (rfl) (zn_narb (by decide)) (zn_fitb (by decide)) d_M_accept_261 (fun H locs hP hS => ?_)
    refine lv_aload_n hx hb d_M_accept_264 rfl (lv_at hl 0 rfl) ?_
    refine lv_iconst (v := 0) hx hb d_M_accept_265 rfl ?_
    refine mm_put hx hb hts hown hK hP hD hS (index := 132) 4 (by decide) mf_M_132 (0) (rfl) (zn_narb (by decide)) (zn_fitb (by decide)) d_M_accept_266 (fun H locs hP hS => ?_)
    refine lv_aload_n hx hb d_M_accept_269 rfl (lv_at hl 0 rfl) ?_
    refine mm_get hx hb hts hown hK hP (index := 125) 29 (by decide) mf_M_125 (v := .int (nI (a 0 2))) rfl d_M_accept_270 ?_
    exact W.iret hx hb hr (fun t ht hW => ⟨⟨_, zs (zs (zs (va_up (va_up (va_up (va_up a 14 h) 15 h2) 16 h3) 13 h4) 0 0 0) 0 3 0) 0 4 0, rfl, Or.inr ⟨z, a, n, h, h2, h3, h4, hA, hh, q2, q3, q4, rfl, rfl⟩, va_K.moved hW.alike hK, by rw [ht]; exact hP⟩, hS.F ht⟩) hS.2.2 d_M_accept_273
  · skip
    have z : ¬ ar 0 0 = 1 := fun q => h5 (by rw [q]; rfl)
    refine lv_iconst (v := (-1)) hx hb d_M_accept_8 rfl ?_
    exact W.iret hx hb hr (fun t ht hW => ⟨⟨_, ar, rfl, Or.inl ⟨z, rfl, rfl⟩, va_K.moved hW.alike hK, by rw [ht]; exact hP⟩, hS.F ht⟩) hS.2.2 d_M_accept_9
end
section
/-! the model's constructor -/
def mfP (am : Nat → Nat) (j : Nat) : List Value := (List.range 34).map (fun i => if i < j then .ref (am (i + 1)) else if i < 27 then .null else .int 0)
def mcP (ca : Nat → ClassId) (am : Nat → Nat) (j : Nat) : Nat → va_E := fun q => match q with
  | 0 => .inr (1, mfP am j)
  | q + 1 => .inl (ca (mty (q + 1)), mlen (q + 1), .inl (fun _ => 0))
theorem mfP_set {am : Nat → Nat} {j q : Nat} (hj : j < 27) : (mfP am j).set j (.ref q) = mfP (va_up am (j + 1) q) (j + 1) := by
  apply List.ext_getElem?
  intro i
  unfold mfP
  by_cases hi : i < 34
  · by_cases e : j = i
    · subst e
      rw [List.getElem?_set_self (by simpa using hi)]
      simp [hi, va_up_self]
    · rw [List.getElem?_set_ne e]
      simp only [List.getElem?_map, List.getElem?_range hi, Option.map_some]
      by_cases h1 : i < j
      · rw [if_pos h1, if_pos (by omega), va_up_ne _ _ (by omega)]
      · rw [if_neg h1, if_neg (show ¬ i < j + 1 by omega)]
  · rw [List.getElem?_eq_none (by simp; omega), List.getElem?_eq_none (by simp; omega)]
theorem mfP_27 (am : Nat → Nat) : mfP am 27 = mfs am (fun _ _ => 0) := rfl
theorem zty_u {D : va_G} {cl : List vw_C} {ca : Nat → ClassId} {s : State} {cA : ClassId} (h : va_K D cl (zty ca ++ [(cA, .int)]) s) : cA = ca 0 := by
  have a := (h.2 0 (ca 0, .int) rfl).2
  have b := (h.2 4 (cA, .int) rfl).2
  exact Option.some.inj (b.symm.trans a)
theorem zty_ub {D : va_G} {cl : List vw_C} {ca : Nat → ClassId} {s : State} {cA : ClassId} (h : va_K D cl (zty ca ++ [(cA, .boolean)]) s) : cA = ca 1 := by
  have a := (h.2 1 (ca 1, .boolean) rfl).2
  have b := (h.2 4 (cA, .boolean) rfl).2
  exact Option.some.inj (b.symm.trans a)
theorem zD_push {A : Nat → Prop} {D : va_G} {cl : List vw_C} {n : Nat} {ad : Nat → Nat} {ct : Nat → va_E} {q : Nat} {e : va_E} (h : va_D A (zl n ad ct ++ [(q, e)])) : zD A (n + 1) (va_up ad n q) := by
  rw [zl_push] at h
  exact zD_of h
theorem T_M_fin {k : Nat} (h : k < 27) : (T_M k).2.2.2 = true := by
  rcases (show k = 0 ∨ k = 1 ∨ k = 2 ∨ k = 3 ∨ k = 4 ∨ k = 5 ∨ k = 6 ∨ k = 7 ∨ k = 8 ∨ k = 9 ∨ k = 10 ∨ k = 11 ∨ k = 12 ∨ k = 13 ∨ k = 14 ∨ k = 15 ∨ k = 16 ∨ k = 17 ∨ k = 18 ∨ k = 19 ∨ k = 20 ∨ k = 21 ∨ k = 22 ∨ k = 23 ∨ k = 24 ∨ k = 25 ∨ k = 26 by omega) with rfl | rfl | rfl | rfl | rfl | rfl | rfl | rfl | rfl | rfl | rfl | rfl | rfl | rfl | rfl | rfl | rfl | rfl | rfl | rfl | rfl | rfl | rfl | rfl | rfl | rfl | rfl <;> rfl
theorem ft_M_arr {k q : Nat} (h : k < 27) : narrow (ft_M k) (.ref q) = .ref q ∧ fits (ft_M k) (.ref q) = true := by
  rcases (show k = 0 ∨ k = 1 ∨ k = 2 ∨ k = 3 ∨ k = 4 ∨ k = 5 ∨ k = 6 ∨ k = 7 ∨ k = 8 ∨ k = 9 ∨ k = 10 ∨ k = 11 ∨ k = 12 ∨ k = 13 ∨ k = 14 ∨ k = 15 ∨ k = 16 ∨ k = 17 ∨ k = 18 ∨ k = 19 ∨ k = 20 ∨ k = 21 ∨ k = 22 ∨ k = 23 ∨ k = 24 ∨ k = 25 ∨ k = 26 by omega) with rfl | rfl | rfl | rfl | rfl | rfl | rfl | rfl | rfl | rfl | rfl | rfl | rfl | rfl | rfl | rfl | rfl | rfl | rfl | rfl | rfl | rfl | rfl | rfl | rfl | rfl | rfl <;> exact ⟨rfl, rfl⟩

theorem d_M_init_0 : decode c_M_init 0 = .ok (.aload_n 0, 1) := by decide +kernel
theorem d_M_init_1 : decode c_M_init 1 = .ok (.invokespecial 1, 3) := by decide +kernel
theorem d_M_init_4 : decode c_M_init 4 = .ok (.aload_n 0, 1) := by decide +kernel
theorem d_M_init_5 : decode c_M_init 5 = .ok (.bipush 90, 2) := by decide +kernel
theorem d_M_init_7 : decode c_M_init 7 = .ok (.newarray .int, 2) := by decide +kernel
theorem d_M_init_9 : decode c_M_init 9 = .ok (.putfield 7, 3) := by decide +kernel
theorem d_M_init_12 : decode c_M_init 12 = .ok (.aload_n 0, 1) := by decide +kernel
theorem d_M_init_13 : decode c_M_init 13 = .ok (.bipush 90, 2) := by decide +kernel
theorem d_M_init_15 : decode c_M_init 15 = .ok (.newarray .int, 2) := by decide +kernel
theorem d_M_init_17 : decode c_M_init 17 = .ok (.putfield 13, 3) := by decide +kernel
theorem d_M_init_20 : decode c_M_init 20 = .ok (.aload_n 0, 1) := by decide +kernel
theorem d_M_init_21 : decode c_M_init 21 = .ok (.bipush 90, 2) := by decide +kernel
theorem d_M_init_23 : decode c_M_init 23 = .ok (.newarray .int, 2) := by decide +kernel
theorem d_M_init_25 : decode c_M_init 25 = .ok (.putfield 16, 3) := by decide +kernel
theorem d_M_init_28 : decode c_M_init 28 = .ok (.aload_n 0, 1) := by decide +kernel
theorem d_M_init_29 : decode c_M_init 29 = .ok (.bipush 90, 2) := by decide +kernel
theorem d_M_init_31 : decode c_M_init 31 = .ok (.newarray .int, 2) := by decide +kernel
theorem d_M_init_33 : decode c_M_init 33 = .ok (.putfield 19, 3) := by decide +kernel
theorem d_M_init_36 : decode c_M_init 36 = .ok (.aload_n 0, 1) := by decide +kernel
theorem d_M_init_37 : decode c_M_init 37 = .ok (.bipush 90, 2) := by decide +kernel
theorem d_M_init_39 : decode c_M_init 39 = .ok (.newarray .int, 2) := by decide +kernel
theorem d_M_init_41 : decode c_M_init 41 = .ok (.putfield 22, 3) := by decide +kernel
theorem d_M_init_44 : decode c_M_init 44 = .ok (.aload_n 0, 1) := by decide +kernel
theorem d_M_init_45 : decode c_M_init 45 = .ok (.bipush 7, 2) := by decide +kernel
theorem d_M_init_47 : decode c_M_init 47 = .ok (.newarray .int, 2) := by decide +kernel
theorem d_M_init_49 : decode c_M_init 49 = .ok (.putfield 25, 3) := by decide +kernel
theorem d_M_init_52 : decode c_M_init 52 = .ok (.aload_n 0, 1) := by decide +kernel
theorem d_M_init_53 : decode c_M_init 53 = .ok (.bipush 15, 2) := by decide +kernel
theorem d_M_init_55 : decode c_M_init 55 = .ok (.newarray .int, 2) := by decide +kernel
theorem d_M_init_57 : decode c_M_init 57 = .ok (.putfield 28, 3) := by decide +kernel
theorem d_M_init_60 : decode c_M_init 60 = .ok (.aload_n 0, 1) := by decide +kernel
theorem d_M_init_61 : decode c_M_init 61 = .ok (.bipush 15, 2) := by decide +kernel
theorem d_M_init_63 : decode c_M_init 63 = .ok (.newarray .int, 2) := by decide +kernel
theorem d_M_init_65 : decode c_M_init 65 = .ok (.putfield 31, 3) := by decide +kernel
theorem d_M_init_68 : decode c_M_init 68 = .ok (.aload_n 0, 1) := by decide +kernel
theorem d_M_init_69 : decode c_M_init 69 = .ok (.bipush 15, 2) := by decide +kernel
theorem d_M_init_71 : decode c_M_init 71 = .ok (.newarray .int, 2) := by decide +kernel
theorem d_M_init_73 : decode c_M_init 73 = .ok (.putfield 34, 3) := by decide +kernel
theorem d_M_init_76 : decode c_M_init 76 = .ok (.aload_n 0, 1) := by decide +kernel
theorem d_M_init_77 : decode c_M_init 77 = .ok (.bipush 15, 2) := by decide +kernel
theorem d_M_init_79 : decode c_M_init 79 = .ok (.newarray .int, 2) := by decide +kernel
theorem d_M_init_81 : decode c_M_init 81 = .ok (.putfield 37, 3) := by decide +kernel
theorem d_M_init_84 : decode c_M_init 84 = .ok (.aload_n 0, 1) := by decide +kernel
theorem d_M_init_85 : decode c_M_init 85 = .ok (.bipush 16, 2) := by decide +kernel
theorem d_M_init_87 : decode c_M_init 87 = .ok (.newarray .int, 2) := by decide +kernel
theorem d_M_init_89 : decode c_M_init 89 = .ok (.putfield 40, 3) := by decide +kernel
theorem d_M_init_92 : decode c_M_init 92 = .ok (.aload_n 0, 1) := by decide +kernel
theorem d_M_init_93 : decode c_M_init 93 = .ok (.bipush 16, 2) := by decide +kernel
theorem d_M_init_95 : decode c_M_init 95 = .ok (.newarray .int, 2) := by decide +kernel
theorem d_M_init_97 : decode c_M_init 97 = .ok (.putfield 43, 3) := by decide +kernel
theorem d_M_init_100 : decode c_M_init 100 = .ok (.aload_n 0, 1) := by decide +kernel
theorem d_M_init_101 : decode c_M_init 101 = .ok (.bipush 8, 2) := by decide +kernel
theorem d_M_init_103 : decode c_M_init 103 = .ok (.newarray .int, 2) := by decide +kernel
theorem d_M_init_105 : decode c_M_init 105 = .ok (.putfield 46, 3) := by decide +kernel
theorem d_M_init_108 : decode c_M_init 108 = .ok (.aload_n 0, 1) := by decide +kernel
theorem d_M_init_109 : decode c_M_init 109 = .ok (.bipush 16, 2) := by decide +kernel
theorem d_M_init_111 : decode c_M_init 111 = .ok (.newarray .int, 2) := by decide +kernel
theorem d_M_init_113 : decode c_M_init 113 = .ok (.putfield 49, 3) := by decide +kernel
theorem d_M_init_116 : decode c_M_init 116 = .ok (.aload_n 0, 1) := by decide +kernel
theorem d_M_init_117 : decode c_M_init 117 = .ok (.bipush 8, 2) := by decide +kernel
theorem d_M_init_119 : decode c_M_init 119 = .ok (.newarray .int, 2) := by decide +kernel
theorem d_M_init_121 : decode c_M_init 121 = .ok (.putfield 52, 3) := by decide +kernel
theorem d_M_init_124 : decode c_M_init 124 = .ok (.aload_n 0, 1) := by decide +kernel
theorem d_M_init_125 : decode c_M_init 125 = .ok (.bipush 8, 2) := by decide +kernel
theorem d_M_init_127 : decode c_M_init 127 = .ok (.newarray .int, 2) := by decide +kernel
theorem d_M_init_129 : decode c_M_init 129 = .ok (.putfield 55, 3) := by decide +kernel
theorem d_M_init_132 : decode c_M_init 132 = .ok (.aload_n 0, 1) := by decide +kernel
theorem d_M_init_133 : decode c_M_init 133 = .ok (.bipush 16, 2) := by decide +kernel
theorem d_M_init_135 : decode c_M_init 135 = .ok (.newarray .int, 2) := by decide +kernel
theorem d_M_init_137 : decode c_M_init 137 = .ok (.putfield 58, 3) := by decide +kernel
theorem d_M_init_140 : decode c_M_init 140 = .ok (.aload_n 0, 1) := by decide +kernel
theorem d_M_init_141 : decode c_M_init 141 = .ok (.bipush 8, 2) := by decide +kernel
theorem d_M_init_143 : decode c_M_init 143 = .ok (.newarray .int, 2) := by decide +kernel
theorem d_M_init_145 : decode c_M_init 145 = .ok (.putfield 61, 3) := by decide +kernel
theorem d_M_init_148 : decode c_M_init 148 = .ok (.aload_n 0, 1) := by decide +kernel
theorem d_M_init_149 : decode c_M_init 149 = .ok (.bipush 8, 2) := by decide +kernel
theorem d_M_init_151 : decode c_M_init 151 = .ok (.newarray .int, 2) := by decide +kernel
theorem d_M_init_153 : decode c_M_init 153 = .ok (.putfield 64, 3) := by decide +kernel
theorem d_M_init_156 : decode c_M_init 156 = .ok (.aload_n 0, 1) := by decide +kernel
theorem d_M_init_157 : decode c_M_init 157 = .ok (.bipush 8, 2) := by decide +kernel
theorem d_M_init_159 : decode c_M_init 159 = .ok (.newarray .int, 2) := by decide +kernel
theorem d_M_init_161 : decode c_M_init 161 = .ok (.putfield 67, 3) := by decide +kernel
theorem d_M_init_164 : decode c_M_init 164 = .ok (.aload_n 0, 1) := by decide +kernel
theorem d_M_init_165 : decode c_M_init 165 = .ok (.bipush 15, 2) := by decide +kernel
theorem d_M_init_167 : decode c_M_init 167 = .ok (.newarray .boolean, 2) := by decide +kernel
theorem d_M_init_169 : decode c_M_init 169 = .ok (.putfield 70, 3) := by decide +kernel
theorem d_M_init_172 : decode c_M_init 172 = .ok (.aload_n 0, 1) := by decide +kernel
theorem d_M_init_173 : decode c_M_init 173 = .ok (.bipush 15, 2) := by decide +kernel
theorem d_M_init_175 : decode c_M_init 175 = .ok (.newarray .int, 2) := by decide +kernel
theorem d_M_init_177 : decode c_M_init 177 = .ok (.putfield 74, 3) := by decide +kernel
theorem d_M_init_180 : decode c_M_init 180 = .ok (.aload_n 0, 1) := by decide +kernel
theorem d_M_init_181 : decode c_M_init 181 = .ok (.bipush 15, 2) := by decide +kernel
theorem d_M_init_183 : decode c_M_init 183 = .ok (.newarray .int, 2) := by decide +kernel
theorem d_M_init_185 : decode c_M_init 185 = .ok (.putfield 77, 3) := by decide +kernel
theorem d_M_init_188 : decode c_M_init 188 = .ok (.aload_n 0, 1) := by decide +kernel
theorem d_M_init_189 : decode c_M_init 189 = .ok (.bipush 15, 2) := by decide +kernel
theorem d_M_init_191 : decode c_M_init 191 = .ok (.newarray .int, 2) := by decide +kernel
theorem d_M_init_193 : decode c_M_init 193 = .ok (.putfield 80, 3) := by decide +kernel
theorem d_M_init_196 : decode c_M_init 196 = .ok (.aload_n 0, 1) := by decide +kernel
theorem d_M_init_197 : decode c_M_init 197 = .ok (.bipush 15, 2) := by decide +kernel
theorem d_M_init_199 : decode c_M_init 199 = .ok (.newarray .boolean, 2) := by decide +kernel
theorem d_M_init_201 : decode c_M_init 201 = .ok (.putfield 83, 3) := by decide +kernel
theorem d_M_init_204 : decode c_M_init 204 = .ok (.aload_n 0, 1) := by decide +kernel
theorem d_M_init_205 : decode c_M_init 205 = .ok (.bipush 15, 2) := by decide +kernel
theorem d_M_init_207 : decode c_M_init 207 = .ok (.newarray .int, 2) := by decide +kernel
theorem d_M_init_209 : decode c_M_init 209 = .ok (.putfield 86, 3) := by decide +kernel
theorem d_M_init_212 : decode c_M_init 212 = .ok (.aload_n 0, 1) := by decide +kernel
theorem d_M_init_213 : decode c_M_init 213 = .ok (.bipush 15, 2) := by decide +kernel
theorem d_M_init_215 : decode c_M_init 215 = .ok (.newarray .boolean, 2) := by decide +kernel
theorem d_M_init_217 : decode c_M_init 217 = .ok (.putfield 89, 3) := by decide +kernel
theorem d_M_init_220 : decode c_M_init 220 = .ok (.return_, 1) := by decide +kernel

section MC
variable {p : Program} {l : Launch} {e : Env} {R : Room} {s : State} {m : MethodId} {args : Array Value} {below : List Frame} {meth : Method} {c : Code} {H0 : Heap}  {Q : State → Prop} {A : Nat → Prop} {D : va_G} {ca : Nat → ClassId}
set_option maxHeartbeats 4000000 in
set_option maxRecDepth 100000 in
theorem minit_int (hx : p.tables.exec = Jvm.exec) (hb : c.code = c_M_init) (hown : s.vm.findClass R_M = some m.cls) (hts : ∀ w ∈ zT, w.before args s = true) (hin : meth.name = "<init>") (hK : va_K D zC (zty ca) s) (hA : ∀ q, H0.size ≤ q → A q) (j : Nat) (hj : j < 27) (hty : mty (j + 1) = 0) {am : Nat → Nat} {H : Heap} {locs : List Loc} {cells slots pc index : Nat} {nn : Int} {ls : Array Slot} (hP : va_P D zC (zl (j + 1) am (mcP ca am j)) H) (hD : zD A (j + 1) am) (hS : va_S A H0 H locs) (hl : ls[0]? = some (.val (.ref (am 0)))) (d0 : decode c_M_init pc = .ok (.aload_n 0, 1)) (d1 : decode c_M_init (pc + 1) = .ok (.bipush nn, 2)) (d2 : decode c_M_init (pc + 3) = .ok (.newarray .int, 2)) (d3 : decode c_M_init (pc + 5) = .ok (.putfield index, 3)) (hn : (Int8.ofInt nn).toInt32 = nI (mlen (j + 1))) (w : Cond.fieldLink R_M index "SigmaDeskModel" (T_M j).2.1 (T_M j).2.2.1 ∈ zT) (hc : cells + 1 ≤ R.cells) (hs : slots + mlen (j + 1) ≤ R.slots)
    (kk : ∀ (am1 : Nat → Nat) (H : Heap) (locs : List Loc), am1 0 = am 0 → va_P D zC (zl (j + 2) am1 (mcP ca am1 (j + 1))) H → zD A (j + 2) am1 → va_S A H0 H locs → W p l e R s m args below meth c H locs (cells + 1) (slots + mlen (j + 1)) Q (F0 m (pc + 8) ls [])) : W p l e R s m args below meth c H locs cells slots Q (F0 m pc ls []) := by
  refine lv_aload_n hx hb d0 rfl hl ?_
  refine lv_bipush (v := nI (mlen (j + 1))) hx hb d1 hn ?_
  have hm := mlen_lt (j + 1)
  have hm2 : mlen (j + 1) ≤ 90 := by unfold mlen; split <;> decide
  refine va_newa (atype := .int) (D := D) (cl := zC) (tys := zty ca) (a0 := (mlen (j + 1), .inl (fun _ => 0))) hx hb (hts _ ma_int) (ty := .int) rfl hK hP (zD_to hD _) hS hA (fun cA => rfl) (nI_pos hm) (nI_clamp hm) (Nat.le_trans (Nat.mul_le_mul_right _ hm2) (by decide)) hc hs d2 (fun q cA H1 hK1 hP1 hD1 hS1 => ?_)
  have hcA := zty_u hK1
  subst hcA
  rw [zl_push] at hP1
  have hD2 := zD_push (D := D) (cl := zC) hD1
  have e0 : va_up am (j + 1) q 0 = am 0 := va_up_ne _ _ (by omega)
  rw [← e0]
  refine va_putF (D := D) (cl := zC) (tys := zty ca) (ci := 1) (v := .ref q) (ty := ft_M j) (C := R_M) (T := T_M) (N := 34) (fs := mfP am j) hx hb hts in_M ft_M ft_M_ok fn_M hown hK hP1 (zD_to hD2 _) hS1 0 ((zl_get (by omega)).trans (by rw [va_up_ne _ _ (by omega)]; rfl)) rfl j (by omega) (hts _ w) (fun _ h => by rw [T_M_own] at h; exact h) (T_M_fin hj) hin (T_M_own j) (ft_M_ok j (by omega)) (ft_M_arr hj).1 (ft_M_arr hj).2 (show j < (mfP am j).length by unfold mfP; rw [List.length_map, List.length_range]; omega) d3 (fun H2 locs2 hP2 _ hS2 => ?_)
  rw [zl_set, mfP_set hj] at hP2
  refine kk (va_up am (j + 1) q) H2 locs2 e0 (zP_congr hP2 (fun i hi => ?_)) hD2 hS2
  cases i with
  | zero => rw [va_up_self]; rfl
  | succ i =>
    rw [va_up_ne _ _ (by omega)]
    by_cases e : i = j
    · subst e; rw [va_up_self]; show Sum.inl (ca (mty (i + 1)), _) = _; rw [hty]
    · rw [va_up_ne _ _ (by omega)]; rfl
set_option maxHeartbeats 4000000 in
set_option maxRecDepth 100000 in
theorem minit_boolean (hx : p.tables.exec = Jvm.exec) (hb : c.code = c_M_init) (hown : s.vm.findClass R_M = some m.cls) (hts : ∀ w ∈ zT, w.before args s = true) (hin : meth.name = "<init>") (hK : va_K D zC (zty ca) s) (hA : ∀ q, H0.size ≤ q → A q) (j : Nat) (hj : j < 27) (hty : mty (j + 1) = 1) {am : Nat → Nat} {H : Heap} {locs : List Loc} {cells slots pc index : Nat} {nn : Int} {ls : Array Slot} (hP : va_P D zC (zl (j + 1) am (mcP ca am j)) H) (hD : zD A (j + 1) am) (hS : va_S A H0 H locs) (hl : ls[0]? = some (.val (.ref (am 0)))) (d0 : decode c_M_init pc = .ok (.aload_n 0, 1)) (d1 : decode c_M_init (pc + 1) = .ok (.bipush nn, 2)) (d2 : decode c_M_init (pc + 3) = .ok (.newarray .boolean, 2)) (d3 : decode c_M_init (pc + 5) = .ok (.putfield index, 3)) (hn : (Int8.ofInt nn).toInt32 = nI (mlen (j + 1))) (w : Cond.fieldLink R_M index "SigmaDeskModel" (T_M j).2.1 (T_M j).2.2.1 ∈ zT) (hc : cells + 1 ≤ R.cells) (hs : slots + mlen (j + 1) ≤ R.slots)
    (kk : ∀ (am1 : Nat → Nat) (H : Heap) (locs : List Loc), am1 0 = am 0 → va_P D zC (zl (j + 2) am1 (mcP ca am1 (j + 1))) H → zD A (j + 2) am1 → va_S A H0 H locs → W p l e R s m args below meth c H locs (cells + 1) (slots + mlen (j + 1)) Q (F0 m (pc + 8) ls [])) : W p l e R s m args below meth c H locs cells slots Q (F0 m pc ls []) := by
  refine lv_aload_n hx hb d0 rfl hl ?_
  refine lv_bipush (v := nI (mlen (j + 1))) hx hb d1 hn ?_
  have hm := mlen_lt (j + 1)
  have hm2 : mlen (j + 1) ≤ 90 := by unfold mlen; split <;> decide
  refine va_newa (atype := .boolean) (D := D) (cl := zC) (tys := zty ca) (a0 := (mlen (j + 1), .inl (fun _ => 0))) hx hb (hts _ ma_boolean) (ty := .boolean) rfl hK hP (zD_to hD _) hS hA (fun cA => rfl) (nI_pos hm) (nI_clamp hm) (Nat.le_trans (Nat.mul_le_mul_right _ hm2) (by decide)) hc hs d2 (fun q cA H1 hK1 hP1 hD1 hS1 => ?_)
  have hcA := zty_ub hK1
  subst hcA
  rw [zl_push] at hP1
  have hD2 := zD_push (D := D) (cl := zC) hD1
  have e0 : va_up am (j + 1) q 0 = am 0 := va_up_ne _ _ (by omega)
  rw [← e0]
  refine va_putF (D := D) (cl := zC) (tys := zty ca) (ci := 1) (v := .ref q) (ty := ft_M j) (C := R_M) (T := T_M) (N := 34) (fs := mfP am j) hx hb hts in_M ft_M ft_M_ok fn_M hown hK hP1 (zD_to hD2 _) hS1 0 ((zl_get (by omega)).trans (by rw [va_up_ne _ _ (by omega)]; rfl)) rfl j (by omega) (hts _ w) (fun _ h => by rw [T_M_own] at h; exact h) (T_M_fin hj) hin (T_M_own j) (ft_M_ok j (by omega)) (ft_M_arr hj).1 (ft_M_arr hj).2 (show j < (mfP am j).length by unfold mfP; rw [List.length_map, List.length_range]; omega) d3 (fun H2 locs2 hP2 _ hS2 => ?_)
  rw [zl_set, mfP_set hj] at hP2
  refine kk (va_up am (j + 1) q) H2 locs2 e0 (zP_congr hP2 (fun i hi => ?_)) hD2 hS2
  cases i with
  | zero => rw [va_up_self]; rfl
  | succ i =>
    rw [va_up_ne _ _ (by omega)]
    by_cases e : i = j
    · subst e; rw [va_up_self]; show Sum.inl (ca (mty (i + 1)), _) = _; rw [hty]
    · rw [va_up_ne _ _ (by omega)]; rfl
end MC

set_option maxHeartbeats 4000000 in
set_option maxRecDepth 100000 in
/-- a new model: all zero -/
theorem k_initM (l : Launch) (D : va_G) (ca : Nat → ClassId) (h0 sz : Nat) : Met l y_M_init (Cond.code y_M_init c_M_init 1 none :: zT) ({ frames := 1, cells := 27, slots := 734, locals := 40 }) (va_Pc [.ref h0] (fun U => U.heap.size = sz ∧ va_K D zC (zty ca) U ∧ va_P D zC (zl 1 (fun _ => h0) (mcP ca (fun _ => h0) 0)) U.heap)) (va_Qv (fun am : Nat → Nat => am 0 = h0 ∧ zD (fun q => q = h0 ∨ sz ≤ q) 28 am) (fun am t => mw D ca am (fun _ _ => 0) t) (fun q => q = h0 ∨ sz ≤ q)) 27 734 (fun q => q = h0 ∨ sz ≤ q) := by
  refine Met.ofW (cc := c_M_init) (maxL := 1) (ret := none) (by decide) rfl ?_
  intro p e s m args below meth c s₁ B hml hv
  obtain ⟨rfl, hsz, hK, hP⟩ := hv
  have hx := B.exec
  have hb := B.bytes
  have hr := B.returns
  have hts0 := atoms_spec (ws := Cond.code y_M_init c_M_init 1 none :: zT) B.pre
  have hts := fun w h => hts0 w (List.mem_cons_of_mem _ h)
  have hown : s.vm.findClass R_M = some m.cls := findClass_of_methodNamed B.named
  have hlocks := B.notSynchronized
  have hin : meth.name = "<init>" := (name_of_methodNamed B.named B.method).1
  subst hsz
  generalize hAe : (fun q => q = h0 ∨ s.heap.size ≤ q) = A
  have hA : ∀ q : Nat, s.heap.size ≤ q → A q := fun q h => by rw [← hAe]; exact Or.inr h
  have hS : va_S A s.heap s.heap [] := va_S.rf
  have hD : zD A 1 (fun _ => h0) := ⟨fun i j hi hj _ => by omega, fun j hj => by rw [← hAe]; exact Or.inl rfl⟩
  have hl := lv_entry ([.ref h0]) (n := 1) (Nat.le_of_ble_eq_true rfl)
  rw [lg_entry_eq]
  generalize (lg_sl ([.ref h0]) ++ List.replicate (1 - (lg_sl ([.ref h0])).length) Slot.unset).toArray = ls at hl ⊢
  have hl : lv_has ls 1 [(0, .ref h0)] := hl
  refine lv_aload_n hx hb d_M_init_0 rfl (lv_at hl 0 rfl) ?_
  refine W.objInit hx hb hown (hts _ mk_M_1) (hts _ mo_B_init) (hts _ mc_B_init) rfl (by rw [hml]; exact hl.1) rfl d_M_init_1 (Nat.le_of_ble_eq_true rfl) (Nat.le_of_ble_eq_true rfl) ?_
  refine W.eq (g2 := F0 m 4 ls []) rfl ?_
  have hl0 := lv_at hl 0 rfl
  refine minit_int hx hb hown hts hin hK hA 0 (by decide) rfl hP hD hS hl0 d_M_init_4 d_M_init_5 d_M_init_7 d_M_init_9 (by decide) mf_M_7 (by decide) (by decide) (fun am0 H locs e0 hP hD hS => ?_)
  have e0 : am0 0 = h0 := e0
  have hl0 : ls[0]? = some (.val (.ref (am0 0))) := by rw [e0]; exact lv_at hl 0 rfl
  refine minit_int hx hb hown hts hin hK hA 1 (by decide) rfl hP hD hS hl0 d_M_init_12 d_M_init_13 d_M_init_15 d_M_init_17 (by decide) mf_M_13 (by decide) (by decide) (fun am1 H locs e1 hP hD hS => ?_)
  have e1 : am1 0 = h0 := e1.trans e0
  have hl0 : ls[0]? = some (.val (.ref (am1 0))) := by rw [e1]; exact lv_at hl 0 rfl
  refine minit_int hx hb hown hts hin hK hA 2 (by decide) rfl hP hD hS hl0 d_M_init_20 d_M_init_21 d_M_init_23 d_M_init_25 (by decide) mf_M_16 (by decide) (by decide) (fun am2 H locs e2 hP hD hS => ?_)
  have e2 : am2 0 = h0 := e2.trans e1
  have hl0 : ls[0]? = some (.val (.ref (am2 0))) := by rw [e2]; exact lv_at hl 0 rfl
  refine minit_int hx hb hown hts hin hK hA 3 (by decide) rfl hP hD hS hl0 d_M_init_28 d_M_init_29 d_M_init_31 d_M_init_33 (by decide) mf_M_19 (by decide) (by decide) (fun am3 H locs e3 hP hD hS => ?_)
  have e3 : am3 0 = h0 := e3.trans e2
  have hl0 : ls[0]? = some (.val (.ref (am3 0))) := by rw [e3]; exact lv_at hl 0 rfl
  refine minit_int hx hb hown hts hin hK hA 4 (by decide) rfl hP hD hS hl0 d_M_init_36 d_M_init_37 d_M_init_39 d_M_init_41 (by decide) mf_M_22 (by decide) (by decide) (fun am4 H locs e4 hP hD hS => ?_)
  have e4 : am4 0 = h0 := e4.trans e3
  have hl0 : ls[0]? = some (.val (.ref (am4 0))) := by rw [e4]; exact lv_at hl 0 rfl
  refine minit_int hx hb hown hts hin hK hA 5 (by decide) rfl hP hD hS hl0 d_M_init_44 d_M_init_45 d_M_init_47 d_M_init_49 (by decide) mf_M_25 (by decide) (by decide) (fun am5 H locs e5 hP hD hS => ?_)
  have e5 : am5 0 = h0 := e5.trans e4
  have hl0 : ls[0]? = some (.val (.ref (am5 0))) := by rw [e5]; exact lv_at hl 0 rfl
  refine minit_int hx hb hown hts hin hK hA 6 (by decide) rfl hP hD hS hl0 d_M_init_52 d_M_init_53 d_M_init_55 d_M_init_57 (by decide) mf_M_28 (by decide) (by decide) (fun am6 H locs e6 hP hD hS => ?_)
  have e6 : am6 0 = h0 := e6.trans e5
  have hl0 : ls[0]? = some (.val (.ref (am6 0))) := by rw [e6]; exact lv_at hl 0 rfl
  refine minit_int hx hb hown hts hin hK hA 7 (by decide) rfl hP hD hS hl0 d_M_init_60 d_M_init_61 d_M_init_63 d_M_init_65 (by decide) mf_M_31 (by decide) (by decide) (fun am7 H locs e7 hP hD hS => ?_)
  have e7 : am7 0 = h0 := e7.trans e6
  have hl0 : ls[0]? = some (.val (.ref (am7 0))) := by rw [e7]; exact lv_at hl 0 rfl
  refine minit_int hx hb hown hts hin hK hA 8 (by decide) rfl hP hD hS hl0 d_M_init_68 d_M_init_69 d_M_init_71 d_M_init_73 (by decide) mf_M_34 (by decide) (by decide) (fun am8 H locs e8 hP hD hS => ?_)
  have e8 : am8 0 = h0 := e8.trans e7
  have hl0 : ls[0]? = some (.val (.ref (am8 0))) := by rw [e8]; exact lv_at hl 0 rfl
  refine minit_int hx hb hown hts hin hK hA 9 (by decide) rfl hP hD hS hl0 d_M_init_76 d_M_init_77 d_M_init_79 d_M_init_81 (by decide) mf_M_37 (by decide) (by decide) (fun am9 H locs e9 hP hD hS => ?_)
  have e9 : am9 0 = h0 := e9.trans e8
  have hl0 : ls[0]? = some (.val (.ref (am9 0))) := by rw [e9]; exact lv_at hl 0 rfl
  refine minit_int hx hb hown hts hin hK hA 10 (by decide) rfl hP hD hS hl0 d_M_init_84 d_M_init_85 d_M_init_87 d_M_init_89 (by decide) mf_M_40 (by decide) (by decide) (fun am10 H locs e10 hP hD hS => ?_)
  have e10 : am10 0 = h0 := e10.trans e9
  have hl0 : ls[0]? = some (.val (.ref (am10 0))) := by rw [e10]; exact lv_at hl 0 rfl
  refine minit_int hx hb hown hts hin hK hA 11 (by decide) rfl hP hD hS hl0 d_M_init_92 d_M_init_93 d_M_init_95 d_M_init_97 (by decide) mf_M_43 (by decide) (by decide) (fun am11 H locs e11 hP hD hS => ?_)
  have e11 : am11 0 = h0 := e11.trans e10
  have hl0 : ls[0]? = some (.val (.ref (am11 0))) := by rw [e11]; exact lv_at hl 0 rfl
  refine minit_int hx hb hown hts hin hK hA 12 (by decide) rfl hP hD hS hl0 d_M_init_100 d_M_init_101 d_M_init_103 d_M_init_105 (by decide) mf_M_46 (by decide) (by decide) (fun am12 H locs e12 hP hD hS => ?_)
  have e12 : am12 0 = h0 := e12.trans e11
  have hl0 : ls[0]? = some (.val (.ref (am12 0))) := by rw [e12]; exact lv_at hl 0 rfl
  refine minit_int hx hb hown hts hin hK hA 13 (by decide) rfl hP hD hS hl0 d_M_init_108 d_M_init_109 d_M_init_111 d_M_init_113 (by decide) mf_M_49 (by decide) (by decide) (fun am13 H locs e13 hP hD hS => ?_)
  have e13 : am13 0 = h0 := e13.trans e12
  have hl0 : ls[0]? = some (.val (.ref (am13 0))) := by rw [e13]; exact lv_at hl 0 rfl
  refine minit_int hx hb hown hts hin hK hA 14 (by decide) rfl hP hD hS hl0 d_M_init_116 d_M_init_117 d_M_init_119 d_M_init_121 (by decide) mf_M_52 (by decide) (by decide) (fun am14 H locs e14 hP hD hS => ?_)
  have e14 : am14 0 = h0 := e14.trans e13
  have hl0 : ls[0]? = some (.val (.ref (am14 0))) := by rw [e14]; exact lv_at hl 0 rfl
  refine minit_int hx hb hown hts hin hK hA 15 (by decide) rfl hP hD hS hl0 d_M_init_124 d_M_init_125 d_M_init_127 d_M_init_129 (by decide) mf_M_55 (by decide) (by decide) (fun am15 H locs e15 hP hD hS => ?_)
  have e15 : am15 0 = h0 := e15.trans e14
  have hl0 : ls[0]? = some (.val (.ref (am15 0))) := by rw [e15]; exact lv_at hl 0 rfl
  refine minit_int hx hb hown hts hin hK hA 16 (by decide) rfl hP hD hS hl0 d_M_init_132 d_M_init_133 d_M_init_135 d_M_init_137 (by decide) mf_M_58 (by decide) (by decide) (fun am16 H locs e16 hP hD hS => ?_)
  have e16 : am16 0 = h0 := e16.trans e15
  have hl0 : ls[0]? = some (.val (.ref (am16 0))) := by rw [e16]; exact lv_at hl 0 rfl
  refine minit_int hx hb hown hts hin hK hA 17 (by decide) rfl hP hD hS hl0 d_M_init_140 d_M_init_141 d_M_init_143 d_M_init_145 (by decide) mf_M_61 (by decide) (by decide) (fun am17 H locs e17 hP hD hS => ?_)
  have e17 : am17 0 = h0 := e17.trans e16
  have hl0 : ls[0]? = some (.val (.ref (am17 0))) := by rw [e17]; exact lv_at hl 0 rfl
  refine minit_int hx hb hown hts hin hK hA 18 (by decide) rfl hP hD hS hl0 d_M_init_148 d_M_init_149 d_M_init_151 d_M_init_153 (by decide) mf_M_64 (by decide) (by decide) (fun am18 H locs e18 hP hD hS => ?_)
  have e18 : am18 0 = h0 := e18.trans e17
  have hl0 : ls[0]? = some (.val (.ref (am18 0))) := by rw [e18]; exact lv_at hl 0 rfl
  refine minit_int hx hb hown hts hin hK hA 19 (by decide) rfl hP hD hS hl0 d_M_init_156 d_M_init_157 d_M_init_159 d_M_init_161 (by decide) mf_M_67 (by decide) (by decide) (fun am19 H locs e19 hP hD hS => ?_)
  have e19 : am19 0 = h0 := e19.trans e18
  have hl0 : ls[0]? = some (.val (.ref (am19 0))) := by rw [e19]; exact lv_at hl 0 rfl
  refine minit_boolean hx hb hown hts hin hK hA 20 (by decide) rfl hP hD hS hl0 d_M_init_164 d_M_init_165 d_M_init_167 d_M_init_169 (by decide) mf_M_70 (by decide) (by decide) (fun am20 H locs e20 hP hD hS => ?_)
  have e20 : am20 0 = h0 := e20.trans e19
  have hl0 : ls[0]? = some (.val (.ref (am20 0))) := by rw [e20]; exact lv_at hl 0 rfl
  refine minit_int hx hb hown hts hin hK hA 21 (by decide) rfl hP hD hS hl0 d_M_init_172 d_M_init_173 d_M_init_175 d_M_init_177 (by decide) mf_M_74 (by decide) (by decide) (fun am21 H locs e21 hP hD hS => ?_)
  have e21 : am21 0 = h0 := e21.trans e20
  have hl0 : ls[0]? = some (.val (.ref (am21 0))) := by rw [e21]; exact lv_at hl 0 rfl
  refine minit_int hx hb hown hts hin hK hA 22 (by decide) rfl hP hD hS hl0 d_M_init_180 d_M_init_181 d_M_init_183 d_M_init_185 (by decide) mf_M_77 (by decide) (by decide) (fun am22 H locs e22 hP hD hS => ?_)
  have e22 : am22 0 = h0 := e22.trans e21
  have hl0 : ls[0]? = some (.val (.ref (am22 0))) := by rw [e22]; exact lv_at hl 0 rfl
  refine minit_int hx hb hown hts hin hK hA 23 (by decide) rfl hP hD hS hl0 d_M_init_188 d_M_init_189 d_M_init_191 d_M_init_193 (by decide) mf_M_80 (by decide) (by decide) (fun am23 H locs e23 hP hD hS => ?_)
  have e23 : am23 0 = h0 := e23.trans e22
  have hl0 : ls[0]? = some (.val (.ref (am23 0))) := by rw [e23]; exact lv_at hl 0 rfl
  refine minit_boolean hx hb hown hts hin hK hA 24 (by decide) rfl hP hD hS hl0 d_M_init_196 d_M_init_197 d_M_init_199 d_M_init_201 (by decide) mf_M_83 (by decide) (by decide) (fun am24 H locs e24 hP hD hS => ?_)
  have e24 : am24 0 = h0 := e24.trans e23
  have hl0 : ls[0]? = some (.val (.ref (am24 0))) := by rw [e24]; exact lv_at hl 0 rfl
  refine minit_int hx hb hown hts hin hK hA 25 (by decide) rfl hP hD hS hl0 d_M_init_204 d_M_init_205 d_M_init_207 d_M_init_209 (by decide) mf_M_86 (by decide) (by decide) (fun am25 H locs e25 hP hD hS => ?_)
  have e25 : am25 0 = h0 := e25.trans e24
  have hl0 : ls[0]? = some (.val (.ref (am25 0))) := by rw [e25]; exact lv_at hl 0 rfl
  refine minit_boolean hx hb hown hts hin hK hA 26 (by decide) rfl hP hD hS hl0 d_M_init_212 d_M_init_213 d_M_init_215 d_M_init_217 (by decide) mf_M_89 (by decide) (by decide) (fun am26 H locs e26 hP hD hS => ?_)
  have e26 : am26 0 = h0 := e26.trans e25
  have hl0 : ls[0]? = some (.val (.ref (am26 0))) := by rw [e26]; exact lv_at hl 0 rfl
  refine W.cs (cells' := 27) (slots' := 734) rfl rfl ?_
  exact W.vret hx hb hr (fun t ht hW => ⟨⟨am26, rfl, ⟨e26, hD⟩, va_K.moved hW.alike hK, by rw [ht]; exact zP_congr hP (fun i hi => by cases i with | zero => rfl | succ i => rfl)⟩, hS.F ht⟩) hS.2.2 d_M_init_220
end
