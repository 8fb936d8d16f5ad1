/-! THROWS: what they need; checkNumber -/
def bdw (E : String) : List Cond := [.declares ⟨"java/lang/RuntimeException", "<init>", "(Ljava/lang/String;)V"⟩, .declares ⟨"java/lang/Exception", "<init>", "(Ljava/lang/String;)V"⟩, .declares ⟨"java/lang/Throwable", "<init>", "(Ljava/lang/String;)V"⟩, .castable E E]
def exn : List String := ["java/lang/RuntimeException", "java/lang/Exception"]
def IOE : String := "java/lang/IndexOutOfBoundsException"
def ISE : String := "java/lang/IllegalStateException"
def TH (E : String) (is : Nat) (tx : String) (sa : Nat) (A : Nat → Prop) (U : State) (H : Heap) : Prop := (∀ w ∈ bdw E, va_Nw w U) ∧ vk_R RX8 is tx sa U ∧ vx_Zq Bundle.tN "UNASSIGNED_STACK" Bundle.steD A U H ∧ vx_Zq Bundle.tN "SUPPRESSED_SENTINEL" Bundle.listD A U H
theorem TH.call {E tx : String} {is sa : Nat} {A : Nat → Prop} {U : State} {H : Heap} {g : JFrame} {mk : MethodId} {a : Array Value} (h : TH E is tx sa A U H) : TH E is tx sa A (U.calling g mk a) H := by
  obtain ⟨h1, h2, h3, h4⟩ := h
  refine ⟨fun w hw => va_Nw.same ?_ (u := U) (U := U.calling g mk a) rfl (h1 w hw), vk_R.same (u := U) (U := U.calling g mk a) rfl h2, vx_Zq.moved (u := U) (U := U.calling g mk a) (Vm.Alike.refl U.vm) h3, vx_Zq.moved (u := U) (U := U.calling g mk a) (Vm.Alike.refl U.vm) h4⟩
  unfold bdw at hw
  rcases List.mem_cons.mp hw with e | hw
  · rw [e]; rfl
  rcases List.mem_cons.mp hw with e | hw
  · rw [e]; rfl
  rcases List.mem_cons.mp hw with e | hw
  · rw [e]; rfl
  rcases List.mem_cons.mp hw with e | hw
  · rw [e]; rfl
  · cases hw
theorem TH.warm {E tx : String} {is sa : Nat} {A : Nat → Prop} {s U : State} {H : Heap} (hW : s.WarmedH U.vm) (h : TH E is tx sa A s H) : TH E is tx sa A U H := by
  obtain ⟨h1, h2, h3, h4⟩ := h
  refine ⟨fun w hw => ?_, vk_R.warm hW h2, vx_Zq.moved hW.alike h3, vx_Zq.moved hW.alike h4⟩
  have h0 := h1 w hw
  unfold bdw at hw
  rcases List.mem_cons.mp hw with e | hw
  · rw [e] at h0 ⊢; exact va_Nw.warmD hW h0
  rcases List.mem_cons.mp hw with e | hw
  · rw [e] at h0 ⊢; exact va_Nw.warmD hW h0
  rcases List.mem_cons.mp hw with e | hw
  · rw [e] at h0 ⊢; exact va_Nw.warmD hW h0
  rcases List.mem_cons.mp hw with e | hw
  · rw [e] at h0 ⊢; exact va_Nw.warmC hW h0
  · cases hw
theorem TH.kept {E tx : String} {is sa : Nat} {A : Nat → Prop} {U : State} {H H1 : Heap} (h : TH E is tx sa A U H) (hq : ∀ a : Nat, a < H.size → ¬ A a → H1[a]? = H[a]?) : TH E is tx sa A U H1 := ⟨h.1, h.2.1, h.2.2.1.kept hq, h.2.2.2.kept hq⟩
theorem TH.narrow {E tx : String} {is sa : Nat} {A B : Nat → Prop} {U : State} {H : Heap} (h : TH E is tx sa A U H) (hAB : ∀ q, B q → A q) : TH E is tx sa B U H := ⟨h.1, h.2.1, h.2.2.1.narrow hAB, h.2.2.2.narrow hAB⟩
theorem TH.words {E tx : String} {is sa : Nat} {A : Nat → Prop} {U : State} {H : Heap} (h : TH E is tx sa A U H) (args : Array Value) : ∀ w ∈ bdw E, w.before args U = true := fun w hw => by
  have h0 := h.1 w hw
  unfold bdw at hw
  rcases List.mem_cons.mp hw with e | hw
  · rw [e] at h0 ⊢; exact va_Nw.use rfl h0
  rcases List.mem_cons.mp hw with e | hw
  · rw [e] at h0 ⊢; exact va_Nw.use rfl h0
  rcases List.mem_cons.mp hw with e | hw
  · rw [e] at h0 ⊢; exact va_Nw.use rfl h0
  rcases List.mem_cons.mp hw with e | hw
  · rw [e] at h0 ⊢; exact va_Nw.use rfl h0
  · cases hw
