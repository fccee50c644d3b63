; A monitor. The memory behind it is its guest's, who meets a machine there.
; The guest always runs in user mode, so what could show it the difference traps:
; a trap that the guest's machine would have had is given on to the guest, and an
; operation of its supervisor is done here in its stead.

AT 4            ; traps come to trap, with all of the memory in reach
WORD 0
WORD trap
WORD 0
WORD 65535

AT 10           ; the guest's machine: GuestTower reads these four
vmode: WORD 0
vbase: WORD 0
vbound: WORD 0
vtimer: WORD 0  ; while vmode is 0; else the timer itself is the guest's

AT 16           ; the guest's memory: all that is behind the monitor
SPSW 0
LOAD r0 3
SET r1 guest
SUB r0 r1
STORE r0 size
STORE r0 vbound
STORE r0 real+3
SET r0 0        ; the guest begins with all 0
SET r1 0
LPSW real

trap: STORE r0 regs     ; only r0 to r4 are used here
STORE r1 regs+1
STORE r2 regs+2
STORE r3 regs+3
STORE r4 regs+4
LOAD r0 vmode
ZERO r0 super

give: STORE r0 guest    ; a trap of the guest's machine; r0: its mode
LOAD r1 1
STORE r1 guest+1
LOAD r1 vbase
STORE r1 guest+2
LOAD r1 vbound
STORE r1 guest+3
LOAD r1 8
STORE r1 guest+8
LOAD r1 9
STORE r1 guest+9
SET r1 guest+4

tell: LOADX r2 r1 1     ; the guest's new status is told by the words at r1; r0: its mode
STORE r2 real+1
LOADX r2 r1 2
STORE r2 vbase
LOADX r3 r1 3
STORE r3 vbound
LOADX r1 r1 0
SET r4 guest
ADD r4 r2
STORE r4 real+2
LOAD r4 size            ; real bound: not beyond the guest's memory
LESS r2 r4
ZERO r2 none
LOAD r2 vbase
SUB r4 r2
MOVE r2 r4
LESS r2 r3
ZERO r2 fits
MOVE r3 r4
fits: STORE r3 real+3
ZERO r1 down
SET r1 1
STORE r1 vmode
ZERO r0 up

leave: LOAD r0 regs
LOAD r1 regs+1
LOAD r2 regs+2
LOAD r3 regs+3
LOAD r4 regs+4
LPSW real

none: SET r3 0          ; the base is beyond the guest's memory
JUMP fits
up: LOAD r1 vtimer      ; from supervisor to user: the timer goes on
ZERO r1 leave
SETT r1
JUMP leave
down: STORE r1 vmode
ZERO r0 leave
GETT r1                 ; from user to supervisor: the timer stands
STORE r1 vtimer
ZERO r1 leave
SET r1 0
SETT r1
JUMP leave

super: LOAD r1 8
SET r2 1
SUB r1 r2
ZERO r1 stead
JUMP give
stead: LOAD r1 9
SHIFT r1 22
LOADX r1 r1 does
GO r1

halt: LOAD r0 regs
LOAD r1 regs+1
LOAD r2 regs+2
LOAD r3 regs+3
LOAD r4 regs+4
HALT

lpsw: SET r2 0
SET r4 3
CALL r3 words
SET r0 0
JUMP tell

spsw: SET r2 0
SET r4 3
CALL r3 words
SET r2 0
STOREX r2 r1 0
LOAD r2 1
SET r3 2
ADD r2 r3
STOREX r2 r1 1
LOAD r2 vbase
STOREX r2 r1 2
LOAD r2 vbound
STOREX r2 r1 3
JUMP next

sett: CALL r3 rega
LOADX r2 r1 regs
STORE r2 vtimer
JUMP next

gett: CALL r3 rega
LOAD r2 vtimer
JUMP put

in: CALL r3 rega
IN r2
put: STOREX r2 r1 regs
LOAD r5 regs+5
LOAD r6 regs+6
LOAD r7 regs+7
JUMP next

out: CALL r3 rega
LOADX r2 r1 regs
OUT r2
JUMP next

getb: CALL r3 block
GETB r2 r1 0
JUMP next

putb: CALL r3 block
PUTB r2 r1 0

next: LOAD r1 1
SET r2 2
ADD r1 r2
STORE r1 real+1
JUMP leave

rega: STORE r5 regs+5   ; r1: which register a is; all of them are in regs then
STORE r6 regs+6
STORE r7 regs+7
LOAD r1 9
SHIFT r1 19
SET r2 7
AND r1 r2
GO r3

block: STORE r3 back    ; r1: where the words are, r2: the block
CALL r3 rega
LOADX r2 r1 regs
STORE r2 which
LOAD r2 9
SET r4 7
AND r2 r4
LOADX r2 r2 regs
SET r4 15
CALL r3 words
LOAD r2 which
LOAD r3 back
GO r3

words: LOAD r1 real+2   ; r1: where the words from r2 + N on are, r4 more than one, if all are good
LOAD r0 1
ADD r1 r0
LOADX r1 r1 1
ADD r1 r2
LOAD r2 real+3
MOVE r0 r1
LESS r0 r2
ZERO r0 bad
ADD r4 r1
LESS r4 r2
ZERO r4 end
LOAD r2 real+2
ADD r1 r2
GO r3
end: MOVE r1 r2         ; the first one is good: the first that is not is the bound
bad: STORE r1 9
SET r1 2
STORE r1 8
SET r0 0
JUMP give

does: WORD halt
SPACE 16
WORD lpsw
WORD spsw
WORD sett
WORD gett
WORD in
WORD out
WORD getb
WORD putb

regs: SPACE 8
size: WORD 0
back: WORD 0
which: WORD 0
real: WORD 1            ; the status that the guest really has
WORD 16
WORD guest
WORD 0
guest:
