/-! What is to be known of a method's row: its words are among those that every method carries. -/
def pm_Mk (me : pm_Me) : Prop :=
  Cond.code me.1 me.2.1 me.2.2.1 me.2.2.2.1 ∈ pm_G ∧ Cond.initialized me.1.cls ∈ pm_G ∧ (me.1.cls ≠ "java/lang/invoke/MethodHandle" ∧ me.1.cls ≠ "java/lang/invoke/VarHandle" ∧ (parseMethodDescriptor me.1.desc).map (fun d => d.parameters.length) = some me.2.2.2.2.1) ∧ me.1.cls = pm_R me.2.2.2.2.2.1 ∧ plainName me.1.cls = true ∧
  (match me.2.2.2.2.2.2 with
    | true => Cond.static me.1 ∈ pm_G
    | false => Cond.instanceMethod me.1 ∈ pm_G ∧ Cond.selects me.1.cls me.1 me.1 ∈ pm_G) ∧
  me.2.2.1 ≤ 41 ∧ (me.2.2.2.1 = none ∨ me.2.2.2.1 = some .int ∨ me.2.2.2.1 = some .boolean ∨ me.2.2.2.1 = some .long ∨ ∃ C, me.2.2.2.1 = some (.object C))
