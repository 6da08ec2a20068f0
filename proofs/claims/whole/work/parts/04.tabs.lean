def MCode (f : Nat) : List PI := codes.getD f []
def mL (f : Nat) : Nat := mLs.getD f 0
def MC (f : Nat) : Nat := mCs.getD f 0
def MS (f : Nat) : Nat := mSs.getD f 0
def RC (f : Nat) : Nat := rCs.getD f 0
def NF (f : Nat) : Nat := nFs.getD f 0
