/-- the method threw an X, and nothing that was there has changed -/
def xq (thr : Prop) (X : String) (st : State) (oc : Outcome) (t : State) : Prop := thr ∧ ∃ x : Nat, oc = .threw x ∧ st.heap.size ≤ t.heap.size ∧ (∀ q : Nat, q < st.heap.size → t.heap[q]? = st.heap[q]?) ∧ ∃ ce : Cell, t.heap[x]? = some ce ∧ st.vm.findClass X = some ce.cls ∧ ∀ k, ce.vm ≠ .statics k
