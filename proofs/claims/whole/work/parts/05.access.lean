/-! a method's parts -/
def m_fetch (y pc : Nat) : Option m_I := m_nth (m_nth (m_rec y).1 (pc / 16) []) (pc % 16) none
def m_bytes (y : Nat) : ByteArray := (m_rec y).2.1
def m_name (y : Nat) : MethodName := (m_rec y).2.2.1
def m_max (y : Nat) : Nat := (m_rec y).2.2.2.1
def m_rt (y : Nat) : Option FieldType := (m_rec y).2.2.2.2.1
def m_oc (y : Nat) : Nat := (m_rec y).2.2.2.2.2.1
def m_par (y : Nat) : Nat := (m_rec y).2.2.2.2.2.2.1
def m_sta (y : Nat) : Bool := (m_rec y).2.2.2.2.2.2.2.1
def m_pla (y : Nat) : Nat := (m_rec y).2.2.2.2.2.2.2.2
def m_entry (y : Nat) (as : List m_V) : m_L := m_pad (m_max y) (m_args as)
